theorem d_Md_in_0 : decode M_Md_in.2.1 0 = .ok (.iload_n 0, 1) := by decide +kernel
theorem d_Md_in_1 : decode M_Md_in.2.1 1 = .ok (.iload_n 1, 1) := by decide +kernel
theorem d_Md_in_2 : decode M_Md_in.2.1 2 = .ok (.if_icmp .lt 12, 3) := by decide +kernel
theorem d_Md_in_5 : decode M_Md_in.2.1 5 = .ok (.iload_n 0, 1) := by decide +kernel
theorem d_Md_in_6 : decode M_Md_in.2.1 6 = .ok (.iload_n 2, 1) := by decide +kernel
theorem d_Md_in_7 : decode M_Md_in.2.1 7 = .ok (.if_icmp .gt 7, 3) := by decide +kernel
theorem d_Md_in_10 : decode M_Md_in.2.1 10 = .ok (.iconst 1, 1) := by decide +kernel
theorem d_Md_in_11 : decode M_Md_in.2.1 11 = .ok (.goto 4, 3) := by decide +kernel
theorem d_Md_in_14 : decode M_Md_in.2.1 14 = .ok (.iconst 0, 1) := by decide +kernel
theorem d_Md_in_15 : decode M_Md_in.2.1 15 = .ok (.ireturn, 1) := by decide +kernel
theorem d_Md_isProvince_0 : decode M_Md_isProvince.2.1 0 = .ok (.iload_n 0, 1) := by decide +kernel
theorem d_Md_isProvince_1 : decode M_Md_isProvince.2.1 1 = .ok (.iconst 0, 1) := by decide +kernel
theorem d_Md_isProvince_2 : decode M_Md_isProvince.2.1 2 = .ok (.iconst 3, 1) := by decide +kernel
theorem d_Md_isProvince_3 : decode M_Md_isProvince.2.1 3 = .ok (.invokestatic 89, 3) := by decide +kernel
theorem d_Md_isProvince_6 : decode M_Md_isProvince.2.1 6 = .ok (.ireturn, 1) := by decide +kernel
theorem d_Md_folk_0 : decode M_Md_folk.2.1 0 = .ok (.iload_n 1, 1) := by decide +kernel
theorem d_Md_folk_1 : decode M_Md_folk.2.1 1 = .ok (.invokestatic 93, 3) := by decide +kernel
theorem d_Md_folk_4 : decode M_Md_folk.2.1 4 = .ok (.ifCond .eq 34, 3) := by decide +kernel
theorem d_Md_folk_7 : decode M_Md_folk.2.1 7 = .ok (.iload_n 2, 1) := by decide +kernel
theorem d_Md_folk_8 : decode M_Md_folk.2.1 8 = .ok (.iconst 0, 1) := by decide +kernel
theorem d_Md_folk_9 : decode M_Md_folk.2.1 9 = .ok (.bipush 9, 2) := by decide +kernel
theorem d_Md_folk_11 : decode M_Md_folk.2.1 11 = .ok (.invokestatic 89, 3) := by decide +kernel
theorem d_Md_folk_14 : decode M_Md_folk.2.1 14 = .ok (.ifCond .eq 24, 3) := by decide +kernel
theorem d_Md_folk_17 : decode M_Md_folk.2.1 17 = .ok (.iload_n 3, 1) := by decide +kernel
theorem d_Md_folk_18 : decode M_Md_folk.2.1 18 = .ok (.iconst 0, 1) := by decide +kernel
theorem d_Md_folk_19 : decode M_Md_folk.2.1 19 = .ok (.bipush 9, 2) := by decide +kernel
theorem d_Md_folk_21 : decode M_Md_folk.2.1 21 = .ok (.invokestatic 89, 3) := by decide +kernel
theorem d_Md_folk_24 : decode M_Md_folk.2.1 24 = .ok (.ifCond .eq 14, 3) := by decide +kernel
theorem d_Md_folk_27 : decode M_Md_folk.2.1 27 = .ok (.aload_n 0, 1) := by decide +kernel
theorem d_Md_folk_28 : decode M_Md_folk.2.1 28 = .ok (.getfield 7, 3) := by decide +kernel
theorem d_Md_folk_31 : decode M_Md_folk.2.1 31 = .ok (.iconst 0, 1) := by decide +kernel
theorem d_Md_folk_32 : decode M_Md_folk.2.1 32 = .ok (.iaload, 1) := by decide +kernel
theorem d_Md_folk_33 : decode M_Md_folk.2.1 33 = .ok (.bipush 12, 2) := by decide +kernel
theorem d_Md_folk_35 : decode M_Md_folk.2.1 35 = .ok (.if_icmp .ne 5, 3) := by decide +kernel
theorem d_Md_folk_38 : decode M_Md_folk.2.1 38 = .ok (.iconst (-1), 1) := by decide +kernel
theorem d_Md_folk_39 : decode M_Md_folk.2.1 39 = .ok (.ireturn, 1) := by decide +kernel
theorem d_Md_folk_40 : decode M_Md_folk.2.1 40 = .ok (.sipush 170, 3) := by decide +kernel
theorem d_Md_folk_43 : decode M_Md_folk.2.1 43 = .ok (.iconst 3, 1) := by decide +kernel
theorem d_Md_folk_44 : decode M_Md_folk.2.1 44 = .ok (.aload_n 0, 1) := by decide +kernel
theorem d_Md_folk_45 : decode M_Md_folk.2.1 45 = .ok (.getfield 7, 3) := by decide +kernel
theorem d_Md_folk_48 : decode M_Md_folk.2.1 48 = .ok (.iconst 0, 1) := by decide +kernel
theorem d_Md_folk_49 : decode M_Md_folk.2.1 49 = .ok (.iaload, 1) := by decide +kernel
theorem d_Md_folk_50 : decode M_Md_folk.2.1 50 = .ok (.imul, 1) := by decide +kernel
theorem d_Md_folk_51 : decode M_Md_folk.2.1 51 = .ok (.iadd, 1) := by decide +kernel
theorem d_Md_folk_52 : decode M_Md_folk.2.1 52 = .ok (.istore 4, 2) := by decide +kernel
theorem d_Md_folk_54 : decode M_Md_folk.2.1 54 = .ok (.aload_n 0, 1) := by decide +kernel
theorem d_Md_folk_55 : decode M_Md_folk.2.1 55 = .ok (.getfield 7, 3) := by decide +kernel
theorem d_Md_folk_58 : decode M_Md_folk.2.1 58 = .ok (.iload 4, 2) := by decide +kernel
theorem d_Md_folk_60 : decode M_Md_folk.2.1 60 = .ok (.iload_n 1, 1) := by decide +kernel
theorem d_Md_folk_61 : decode M_Md_folk.2.1 61 = .ok (.iastore, 1) := by decide +kernel
theorem d_Md_folk_62 : decode M_Md_folk.2.1 62 = .ok (.aload_n 0, 1) := by decide +kernel
theorem d_Md_folk_63 : decode M_Md_folk.2.1 63 = .ok (.getfield 7, 3) := by decide +kernel
theorem d_Md_folk_66 : decode M_Md_folk.2.1 66 = .ok (.iload 4, 2) := by decide +kernel
theorem d_Md_folk_68 : decode M_Md_folk.2.1 68 = .ok (.iconst 1, 1) := by decide +kernel
theorem d_Md_folk_69 : decode M_Md_folk.2.1 69 = .ok (.iadd, 1) := by decide +kernel
theorem d_Md_folk_70 : decode M_Md_folk.2.1 70 = .ok (.iload_n 2, 1) := by decide +kernel
theorem d_Md_folk_71 : decode M_Md_folk.2.1 71 = .ok (.iastore, 1) := by decide +kernel
theorem d_Md_folk_72 : decode M_Md_folk.2.1 72 = .ok (.aload_n 0, 1) := by decide +kernel
theorem d_Md_folk_73 : decode M_Md_folk.2.1 73 = .ok (.getfield 7, 3) := by decide +kernel
theorem d_Md_folk_76 : decode M_Md_folk.2.1 76 = .ok (.iload 4, 2) := by decide +kernel
theorem d_Md_folk_78 : decode M_Md_folk.2.1 78 = .ok (.iconst 2, 1) := by decide +kernel
theorem d_Md_folk_79 : decode M_Md_folk.2.1 79 = .ok (.iadd, 1) := by decide +kernel
theorem d_Md_folk_80 : decode M_Md_folk.2.1 80 = .ok (.iload_n 3, 1) := by decide +kernel
theorem d_Md_folk_81 : decode M_Md_folk.2.1 81 = .ok (.iastore, 1) := by decide +kernel
theorem d_Md_folk_82 : decode M_Md_folk.2.1 82 = .ok (.aload_n 0, 1) := by decide +kernel
theorem d_Md_folk_83 : decode M_Md_folk.2.1 83 = .ok (.getfield 7, 3) := by decide +kernel
theorem d_Md_folk_86 : decode M_Md_folk.2.1 86 = .ok (.iconst 0, 1) := by decide +kernel
theorem d_Md_folk_87 : decode M_Md_folk.2.1 87 = .ok (.dup2, 1) := by decide +kernel
theorem d_Md_folk_88 : decode M_Md_folk.2.1 88 = .ok (.iaload, 1) := by decide +kernel
theorem d_Md_folk_89 : decode M_Md_folk.2.1 89 = .ok (.iconst 1, 1) := by decide +kernel
theorem d_Md_folk_90 : decode M_Md_folk.2.1 90 = .ok (.iadd, 1) := by decide +kernel
theorem d_Md_folk_91 : decode M_Md_folk.2.1 91 = .ok (.iastore, 1) := by decide +kernel
theorem d_Md_folk_92 : decode M_Md_folk.2.1 92 = .ok (.aload_n 0, 1) := by decide +kernel
theorem d_Md_folk_93 : decode M_Md_folk.2.1 93 = .ok (.getfield 7, 3) := by decide +kernel
theorem d_Md_folk_96 : decode M_Md_folk.2.1 96 = .ok (.iconst 0, 1) := by decide +kernel
theorem d_Md_folk_97 : decode M_Md_folk.2.1 97 = .ok (.iaload, 1) := by decide +kernel
theorem d_Md_folk_98 : decode M_Md_folk.2.1 98 = .ok (.iconst 1, 1) := by decide +kernel
theorem d_Md_folk_99 : decode M_Md_folk.2.1 99 = .ok (.isub, 1) := by decide +kernel
theorem d_Md_folk_100 : decode M_Md_folk.2.1 100 = .ok (.ireturn, 1) := by decide +kernel
theorem d_Md_isDay_0 : decode M_Md_isDay.2.1 0 = .ok (.iload_n 0, 1) := by decide +kernel
theorem d_Md_isDay_1 : decode M_Md_isDay.2.1 1 = .ok (.iconst 0, 1) := by decide +kernel
theorem d_Md_isDay_2 : decode M_Md_isDay.2.1 2 = .ok (.bipush 29, 2) := by decide +kernel
theorem d_Md_isDay_4 : decode M_Md_isDay.2.1 4 = .ok (.invokestatic 89, 3) := by decide +kernel
theorem d_Md_isDay_7 : decode M_Md_isDay.2.1 7 = .ok (.ireturn, 1) := by decide +kernel
theorem d_Md_sky_0 : decode M_Md_sky.2.1 0 = .ok (.iload_n 1, 1) := by decide +kernel
theorem d_Md_sky_1 : decode M_Md_sky.2.1 1 = .ok (.invokestatic 97, 3) := by decide +kernel
theorem d_Md_sky_4 : decode M_Md_sky.2.1 4 = .ok (.ifCond .eq 13, 3) := by decide +kernel
theorem d_Md_sky_7 : decode M_Md_sky.2.1 7 = .ok (.iload_n 2, 1) := by decide +kernel
theorem d_Md_sky_8 : decode M_Md_sky.2.1 8 = .ok (.iconst 0, 1) := by decide +kernel
theorem d_Md_sky_9 : decode M_Md_sky.2.1 9 = .ok (.bipush 9, 2) := by decide +kernel
theorem d_Md_sky_11 : decode M_Md_sky.2.1 11 = .ok (.invokestatic 89, 3) := by decide +kernel
theorem d_Md_sky_14 : decode M_Md_sky.2.1 14 = .ok (.ifCond .ne 5, 3) := by decide +kernel
theorem d_Md_sky_17 : decode M_Md_sky.2.1 17 = .ok (.iconst 0, 1) := by decide +kernel
theorem d_Md_sky_18 : decode M_Md_sky.2.1 18 = .ok (.ireturn, 1) := by decide +kernel
theorem d_Md_sky_19 : decode M_Md_sky.2.1 19 = .ok (.aload_n 0, 1) := by decide +kernel
theorem d_Md_sky_20 : decode M_Md_sky.2.1 20 = .ok (.getfield 7, 3) := by decide +kernel
theorem d_Md_sky_23 : decode M_Md_sky.2.1 23 = .ok (.bipush 10, 2) := by decide +kernel
theorem d_Md_sky_25 : decode M_Md_sky.2.1 25 = .ok (.iload_n 1, 1) := by decide +kernel
theorem d_Md_sky_26 : decode M_Md_sky.2.1 26 = .ok (.iadd, 1) := by decide +kernel
theorem d_Md_sky_27 : decode M_Md_sky.2.1 27 = .ok (.iload_n 2, 1) := by decide +kernel
theorem d_Md_sky_28 : decode M_Md_sky.2.1 28 = .ok (.iastore, 1) := by decide +kernel
theorem d_Md_sky_29 : decode M_Md_sky.2.1 29 = .ok (.iconst 1, 1) := by decide +kernel
theorem d_Md_sky_30 : decode M_Md_sky.2.1 30 = .ok (.ireturn, 1) := by decide +kernel
theorem d_Md_wetDays_0 : decode M_Md_wetDays.2.1 0 = .ok (.iconst 0, 1) := by decide +kernel
theorem d_Md_wetDays_1 : decode M_Md_wetDays.2.1 1 = .ok (.istore_n 1, 1) := by decide +kernel
theorem d_Md_wetDays_2 : decode M_Md_wetDays.2.1 2 = .ok (.iconst 0, 1) := by decide +kernel
theorem d_Md_wetDays_3 : decode M_Md_wetDays.2.1 3 = .ok (.istore_n 2, 1) := by decide +kernel
theorem d_Md_wetDays_4 : decode M_Md_wetDays.2.1 4 = .ok (.iload_n 2, 1) := by decide +kernel
theorem d_Md_wetDays_5 : decode M_Md_wetDays.2.1 5 = .ok (.bipush 30, 2) := by decide +kernel
theorem d_Md_wetDays_7 : decode M_Md_wetDays.2.1 7 = .ok (.if_icmp .ge 30, 3) := by decide +kernel
theorem d_Md_wetDays_10 : decode M_Md_wetDays.2.1 10 = .ok (.iload_n 1, 1) := by decide +kernel
theorem d_Md_wetDays_11 : decode M_Md_wetDays.2.1 11 = .ok (.aload_n 0, 1) := by decide +kernel
theorem d_Md_wetDays_12 : decode M_Md_wetDays.2.1 12 = .ok (.getfield 7, 3) := by decide +kernel
theorem d_Md_wetDays_15 : decode M_Md_wetDays.2.1 15 = .ok (.bipush 10, 2) := by decide +kernel
theorem d_Md_wetDays_17 : decode M_Md_wetDays.2.1 17 = .ok (.iload_n 2, 1) := by decide +kernel
theorem d_Md_wetDays_18 : decode M_Md_wetDays.2.1 18 = .ok (.iadd, 1) := by decide +kernel
theorem d_Md_wetDays_19 : decode M_Md_wetDays.2.1 19 = .ok (.iaload, 1) := by decide +kernel
theorem d_Md_wetDays_20 : decode M_Md_wetDays.2.1 20 = .ok (.iconst 5, 1) := by decide +kernel
theorem d_Md_wetDays_21 : decode M_Md_wetDays.2.1 21 = .ok (.if_icmp .lt 7, 3) := by decide +kernel
theorem d_Md_wetDays_24 : decode M_Md_wetDays.2.1 24 = .ok (.iconst 1, 1) := by decide +kernel
theorem d_Md_wetDays_25 : decode M_Md_wetDays.2.1 25 = .ok (.goto 4, 3) := by decide +kernel
theorem d_Md_wetDays_28 : decode M_Md_wetDays.2.1 28 = .ok (.iconst 0, 1) := by decide +kernel
theorem d_Md_wetDays_29 : decode M_Md_wetDays.2.1 29 = .ok (.iadd, 1) := by decide +kernel
theorem d_Md_wetDays_30 : decode M_Md_wetDays.2.1 30 = .ok (.istore_n 1, 1) := by decide +kernel
theorem d_Md_wetDays_31 : decode M_Md_wetDays.2.1 31 = .ok (.iinc 2 1, 3) := by decide +kernel
theorem d_Md_wetDays_34 : decode M_Md_wetDays.2.1 34 = .ok (.goto (-30), 3) := by decide +kernel
theorem d_Md_wetDays_37 : decode M_Md_wetDays.2.1 37 = .ok (.iload_n 1, 1) := by decide +kernel
theorem d_Md_wetDays_38 : decode M_Md_wetDays.2.1 38 = .ok (.ireturn, 1) := by decide +kernel
theorem d_Md_skies_0 : decode M_Md_skies.2.1 0 = .ok (.iload_n 1, 1) := by decide +kernel
theorem d_Md_skies_1 : decode M_Md_skies.2.1 1 = .ok (.iconst 0, 1) := by decide +kernel
theorem d_Md_skies_2 : decode M_Md_skies.2.1 2 = .ok (.sipush 9999, 3) := by decide +kernel
theorem d_Md_skies_5 : decode M_Md_skies.2.1 5 = .ok (.invokestatic 89, 3) := by decide +kernel
theorem d_Md_skies_8 : decode M_Md_skies.2.1 8 = .ok (.ifCond .ne 5, 3) := by decide +kernel
theorem d_Md_skies_11 : decode M_Md_skies.2.1 11 = .ok (.iconst (-1), 1) := by decide +kernel
theorem d_Md_skies_12 : decode M_Md_skies.2.1 12 = .ok (.ireturn, 1) := by decide +kernel
theorem d_Md_skies_13 : decode M_Md_skies.2.1 13 = .ok (.iload_n 1, 1) := by decide +kernel
theorem d_Md_skies_14 : decode M_Md_skies.2.1 14 = .ok (.bipush 11, 2) := by decide +kernel
theorem d_Md_skies_16 : decode M_Md_skies.2.1 16 = .ok (.imul, 1) := by decide +kernel
theorem d_Md_skies_17 : decode M_Md_skies.2.1 17 = .ok (.bipush 7, 2) := by decide +kernel
theorem d_Md_skies_19 : decode M_Md_skies.2.1 19 = .ok (.iadd, 1) := by decide +kernel
theorem d_Md_skies_20 : decode M_Md_skies.2.1 20 = .ok (.istore_n 2, 1) := by decide +kernel
theorem d_Md_skies_21 : decode M_Md_skies.2.1 21 = .ok (.iconst 0, 1) := by decide +kernel
theorem d_Md_skies_22 : decode M_Md_skies.2.1 22 = .ok (.istore_n 3, 1) := by decide +kernel
theorem d_Md_skies_23 : decode M_Md_skies.2.1 23 = .ok (.iload_n 3, 1) := by decide +kernel
theorem d_Md_skies_24 : decode M_Md_skies.2.1 24 = .ok (.bipush 30, 2) := by decide +kernel
theorem d_Md_skies_26 : decode M_Md_skies.2.1 26 = .ok (.if_icmp .ge 35, 3) := by decide +kernel
theorem d_Md_skies_29 : decode M_Md_skies.2.1 29 = .ok (.aload_n 0, 1) := by decide +kernel
theorem d_Md_skies_30 : decode M_Md_skies.2.1 30 = .ok (.getfield 7, 3) := by decide +kernel
theorem d_Md_skies_33 : decode M_Md_skies.2.1 33 = .ok (.bipush 10, 2) := by decide +kernel
theorem d_Md_skies_35 : decode M_Md_skies.2.1 35 = .ok (.iload_n 3, 1) := by decide +kernel
theorem d_Md_skies_36 : decode M_Md_skies.2.1 36 = .ok (.iadd, 1) := by decide +kernel
theorem d_Md_skies_37 : decode M_Md_skies.2.1 37 = .ok (.iload_n 2, 1) := by decide +kernel
theorem d_Md_skies_38 : decode M_Md_skies.2.1 38 = .ok (.bipush 10, 2) := by decide +kernel
theorem d_Md_skies_40 : decode M_Md_skies.2.1 40 = .ok (.irem, 1) := by decide +kernel
theorem d_Md_skies_41 : decode M_Md_skies.2.1 41 = .ok (.iastore, 1) := by decide +kernel
theorem d_Md_skies_42 : decode M_Md_skies.2.1 42 = .ok (.iload_n 2, 1) := by decide +kernel
theorem d_Md_skies_43 : decode M_Md_skies.2.1 43 = .ok (.sipush 233, 3) := by decide +kernel
theorem d_Md_skies_46 : decode M_Md_skies.2.1 46 = .ok (.imul, 1) := by decide +kernel
theorem d_Md_skies_47 : decode M_Md_skies.2.1 47 = .ok (.bipush 61, 2) := by decide +kernel
theorem d_Md_skies_49 : decode M_Md_skies.2.1 49 = .ok (.iadd, 1) := by decide +kernel
theorem d_Md_skies_50 : decode M_Md_skies.2.1 50 = .ok (.sipush 30139, 3) := by decide +kernel
theorem d_Md_skies_53 : decode M_Md_skies.2.1 53 = .ok (.irem, 1) := by decide +kernel
theorem d_Md_skies_54 : decode M_Md_skies.2.1 54 = .ok (.istore_n 2, 1) := by decide +kernel
theorem d_Md_skies_55 : decode M_Md_skies.2.1 55 = .ok (.iinc 3 1, 3) := by decide +kernel
theorem d_Md_skies_58 : decode M_Md_skies.2.1 58 = .ok (.goto (-35), 3) := by decide +kernel
theorem d_Md_skies_61 : decode M_Md_skies.2.1 61 = .ok (.aload_n 0, 1) := by decide +kernel
theorem d_Md_skies_62 : decode M_Md_skies.2.1 62 = .ok (.invokevirtual 100, 3) := by decide +kernel
theorem d_Md_skies_65 : decode M_Md_skies.2.1 65 = .ok (.ireturn, 1) := by decide +kernel
theorem d_Md_decrees_0 : decode M_Md_decrees.2.1 0 = .ok (.bipush 40, 2) := by decide +kernel
theorem d_Md_decrees_2 : decode M_Md_decrees.2.1 2 = .ok (.iconst 4, 1) := by decide +kernel
theorem d_Md_decrees_3 : decode M_Md_decrees.2.1 3 = .ok (.iload_n 1, 1) := by decide +kernel
theorem d_Md_decrees_4 : decode M_Md_decrees.2.1 4 = .ok (.imul, 1) := by decide +kernel
theorem d_Md_decrees_5 : decode M_Md_decrees.2.1 5 = .ok (.iadd, 1) := by decide +kernel
theorem d_Md_decrees_6 : decode M_Md_decrees.2.1 6 = .ok (.iload_n 2, 1) := by decide +kernel
theorem d_Md_decrees_7 : decode M_Md_decrees.2.1 7 = .ok (.iadd, 1) := by decide +kernel
theorem d_Md_decrees_8 : decode M_Md_decrees.2.1 8 = .ok (.istore 4, 2) := by decide +kernel
theorem d_Md_decrees_10 : decode M_Md_decrees.2.1 10 = .ok (.aload_n 0, 1) := by decide +kernel
theorem d_Md_decrees_11 : decode M_Md_decrees.2.1 11 = .ok (.getfield 7, 3) := by decide +kernel
theorem d_Md_decrees_14 : decode M_Md_decrees.2.1 14 = .ok (.iload 4, 2) := by decide +kernel
theorem d_Md_decrees_16 : decode M_Md_decrees.2.1 16 = .ok (.iaload, 1) := by decide +kernel
theorem d_Md_decrees_17 : decode M_Md_decrees.2.1 17 = .ok (.iload_n 3, 1) := by decide +kernel
theorem d_Md_decrees_18 : decode M_Md_decrees.2.1 18 = .ok (.if_icmp .ne 5, 3) := by decide +kernel
theorem d_Md_decrees_21 : decode M_Md_decrees.2.1 21 = .ok (.iconst 0, 1) := by decide +kernel
theorem d_Md_decrees_22 : decode M_Md_decrees.2.1 22 = .ok (.ireturn, 1) := by decide +kernel
theorem d_Md_decrees_23 : decode M_Md_decrees.2.1 23 = .ok (.aload_n 0, 1) := by decide +kernel
theorem d_Md_decrees_24 : decode M_Md_decrees.2.1 24 = .ok (.getfield 7, 3) := by decide +kernel
theorem d_Md_decrees_27 : decode M_Md_decrees.2.1 27 = .ok (.iload 4, 2) := by decide +kernel
theorem d_Md_decrees_29 : decode M_Md_decrees.2.1 29 = .ok (.iload_n 3, 1) := by decide +kernel
theorem d_Md_decrees_30 : decode M_Md_decrees.2.1 30 = .ok (.iastore, 1) := by decide +kernel
theorem d_Md_decrees_31 : decode M_Md_decrees.2.1 31 = .ok (.aload_n 0, 1) := by decide +kernel
theorem d_Md_decrees_32 : decode M_Md_decrees.2.1 32 = .ok (.getfield 7, 3) := by decide +kernel
theorem d_Md_decrees_35 : decode M_Md_decrees.2.1 35 = .ok (.iconst 4, 1) := by decide +kernel
theorem d_Md_decrees_36 : decode M_Md_decrees.2.1 36 = .ok (.iaload, 1) := by decide +kernel
theorem d_Md_decrees_37 : decode M_Md_decrees.2.1 37 = .ok (.bipush 60, 2) := by decide +kernel
theorem d_Md_decrees_39 : decode M_Md_decrees.2.1 39 = .ok (.if_icmp .ne 46, 3) := by decide +kernel
theorem d_Md_decrees_42 : decode M_Md_decrees.2.1 42 = .ok (.sipush 210, 3) := by decide +kernel
theorem d_Md_decrees_45 : decode M_Md_decrees.2.1 45 = .ok (.istore 5, 2) := by decide +kernel
theorem d_Md_decrees_47 : decode M_Md_decrees.2.1 47 = .ok (.iload 5, 2) := by decide +kernel
theorem d_Md_decrees_49 : decode M_Md_decrees.2.1 49 = .ok (.sipush 269, 3) := by decide +kernel
theorem d_Md_decrees_52 : decode M_Md_decrees.2.1 52 = .ok (.if_icmp .ge 25, 3) := by decide +kernel
theorem d_Md_decrees_55 : decode M_Md_decrees.2.1 55 = .ok (.aload_n 0, 1) := by decide +kernel
theorem d_Md_decrees_56 : decode M_Md_decrees.2.1 56 = .ok (.getfield 7, 3) := by decide +kernel
theorem d_Md_decrees_59 : decode M_Md_decrees.2.1 59 = .ok (.iload 5, 2) := by decide +kernel
theorem d_Md_decrees_61 : decode M_Md_decrees.2.1 61 = .ok (.aload_n 0, 1) := by decide +kernel
theorem d_Md_decrees_62 : decode M_Md_decrees.2.1 62 = .ok (.getfield 7, 3) := by decide +kernel
theorem d_Md_decrees_65 : decode M_Md_decrees.2.1 65 = .ok (.iload 5, 2) := by decide +kernel
theorem d_Md_decrees_67 : decode M_Md_decrees.2.1 67 = .ok (.iconst 1, 1) := by decide +kernel
theorem d_Md_decrees_68 : decode M_Md_decrees.2.1 68 = .ok (.iadd, 1) := by decide +kernel
theorem d_Md_decrees_69 : decode M_Md_decrees.2.1 69 = .ok (.iaload, 1) := by decide +kernel
theorem d_Md_decrees_70 : decode M_Md_decrees.2.1 70 = .ok (.iastore, 1) := by decide +kernel
theorem d_Md_decrees_71 : decode M_Md_decrees.2.1 71 = .ok (.iinc 5 1, 3) := by decide +kernel
theorem d_Md_decrees_74 : decode M_Md_decrees.2.1 74 = .ok (.goto (-27), 3) := by decide +kernel
theorem d_Md_decrees_77 : decode M_Md_decrees.2.1 77 = .ok (.aload_n 0, 1) := by decide +kernel
theorem d_Md_decrees_78 : decode M_Md_decrees.2.1 78 = .ok (.getfield 7, 3) := by decide +kernel
theorem d_Md_decrees_81 : decode M_Md_decrees.2.1 81 = .ok (.iconst 4, 1) := by decide +kernel
theorem d_Md_decrees_82 : decode M_Md_decrees.2.1 82 = .ok (.bipush 59, 2) := by decide +kernel
theorem d_Md_decrees_84 : decode M_Md_decrees.2.1 84 = .ok (.iastore, 1) := by decide +kernel
theorem d_Md_decrees_85 : decode M_Md_decrees.2.1 85 = .ok (.aload_n 0, 1) := by decide +kernel
theorem d_Md_decrees_86 : decode M_Md_decrees.2.1 86 = .ok (.getfield 7, 3) := by decide +kernel
theorem d_Md_decrees_89 : decode M_Md_decrees.2.1 89 = .ok (.sipush 210, 3) := by decide +kernel
theorem d_Md_decrees_92 : decode M_Md_decrees.2.1 92 = .ok (.aload_n 0, 1) := by decide +kernel
theorem d_Md_decrees_93 : decode M_Md_decrees.2.1 93 = .ok (.getfield 7, 3) := by decide +kernel
theorem d_Md_decrees_96 : decode M_Md_decrees.2.1 96 = .ok (.iconst 4, 1) := by decide +kernel
theorem d_Md_decrees_97 : decode M_Md_decrees.2.1 97 = .ok (.iaload, 1) := by decide +kernel
theorem d_Md_decrees_98 : decode M_Md_decrees.2.1 98 = .ok (.iadd, 1) := by decide +kernel
theorem d_Md_decrees_99 : decode M_Md_decrees.2.1 99 = .ok (.bipush 10, 2) := by decide +kernel
theorem d_Md_decrees_101 : decode M_Md_decrees.2.1 101 = .ok (.iload_n 1, 1) := by decide +kernel
theorem d_Md_decrees_102 : decode M_Md_decrees.2.1 102 = .ok (.imul, 1) := by decide +kernel
theorem d_Md_decrees_103 : decode M_Md_decrees.2.1 103 = .ok (.iload_n 2, 1) := by decide +kernel
theorem d_Md_decrees_104 : decode M_Md_decrees.2.1 104 = .ok (.iadd, 1) := by decide +kernel
theorem d_Md_decrees_105 : decode M_Md_decrees.2.1 105 = .ok (.iastore, 1) := by decide +kernel
theorem d_Md_decrees_106 : decode M_Md_decrees.2.1 106 = .ok (.aload_n 0, 1) := by decide +kernel
theorem d_Md_decrees_107 : decode M_Md_decrees.2.1 107 = .ok (.getfield 7, 3) := by decide +kernel
theorem d_Md_decrees_110 : decode M_Md_decrees.2.1 110 = .ok (.iconst 4, 1) := by decide +kernel
theorem d_Md_decrees_111 : decode M_Md_decrees.2.1 111 = .ok (.dup2, 1) := by decide +kernel
theorem d_Md_decrees_112 : decode M_Md_decrees.2.1 112 = .ok (.iaload, 1) := by decide +kernel
theorem d_Md_decrees_113 : decode M_Md_decrees.2.1 113 = .ok (.iconst 1, 1) := by decide +kernel
theorem d_Md_decrees_114 : decode M_Md_decrees.2.1 114 = .ok (.iadd, 1) := by decide +kernel
theorem d_Md_decrees_115 : decode M_Md_decrees.2.1 115 = .ok (.iastore, 1) := by decide +kernel
theorem d_Md_decrees_116 : decode M_Md_decrees.2.1 116 = .ok (.iconst 1, 1) := by decide +kernel
theorem d_Md_decrees_117 : decode M_Md_decrees.2.1 117 = .ok (.ireturn, 1) := by decide +kernel
theorem d_Md_decree_0 : decode M_Md_decree.2.1 0 = .ok (.iload_n 1, 1) := by decide +kernel
theorem d_Md_decree_1 : decode M_Md_decree.2.1 1 = .ok (.invokestatic 97, 3) := by decide +kernel
theorem d_Md_decree_4 : decode M_Md_decree.2.1 4 = .ok (.ifCond .eq 10, 3) := by decide +kernel
theorem d_Md_decree_7 : decode M_Md_decree.2.1 7 = .ok (.iload_n 2, 1) := by decide +kernel
theorem d_Md_decree_8 : decode M_Md_decree.2.1 8 = .ok (.invokestatic 93, 3) := by decide +kernel
theorem d_Md_decree_11 : decode M_Md_decree.2.1 11 = .ok (.ifCond .ne 5, 3) := by decide +kernel
theorem d_Md_decree_14 : decode M_Md_decree.2.1 14 = .ok (.iconst 0, 1) := by decide +kernel
theorem d_Md_decree_15 : decode M_Md_decree.2.1 15 = .ok (.ireturn, 1) := by decide +kernel
theorem d_Md_decree_16 : decode M_Md_decree.2.1 16 = .ok (.aload_n 0, 1) := by decide +kernel
theorem d_Md_decree_17 : decode M_Md_decree.2.1 17 = .ok (.iload_n 1, 1) := by decide +kernel
theorem d_Md_decree_18 : decode M_Md_decree.2.1 18 = .ok (.iload_n 2, 1) := by decide +kernel
theorem d_Md_decree_19 : decode M_Md_decree.2.1 19 = .ok (.iload_n 3, 1) := by decide +kernel
theorem d_Md_decree_20 : decode M_Md_decree.2.1 20 = .ok (.ifCond .eq 7, 3) := by decide +kernel
theorem d_Md_decree_23 : decode M_Md_decree.2.1 23 = .ok (.iconst 1, 1) := by decide +kernel
theorem d_Md_decree_24 : decode M_Md_decree.2.1 24 = .ok (.goto 4, 3) := by decide +kernel
theorem d_Md_decree_27 : decode M_Md_decree.2.1 27 = .ok (.iconst 0, 1) := by decide +kernel
theorem d_Md_decree_28 : decode M_Md_decree.2.1 28 = .ok (.invokevirtual 104, 3) := by decide +kernel
theorem d_Md_decree_31 : decode M_Md_decree.2.1 31 = .ok (.istore 4, 2) := by decide +kernel
theorem d_Md_decree_33 : decode M_Md_decree.2.1 33 = .ok (.iconst 1, 1) := by decide +kernel
theorem d_Md_decree_34 : decode M_Md_decree.2.1 34 = .ok (.ireturn, 1) := by decide +kernel
theorem d_Md_chance_0 : decode M_Md_chance.2.1 0 = .ok (.iload_n 1, 1) := by decide +kernel
theorem d_Md_chance_1 : decode M_Md_chance.2.1 1 = .ok (.iconst 0, 1) := by decide +kernel
theorem d_Md_chance_2 : decode M_Md_chance.2.1 2 = .ok (.bipush 9, 2) := by decide +kernel
theorem d_Md_chance_4 : decode M_Md_chance.2.1 4 = .ok (.invokestatic 89, 3) := by decide +kernel
theorem d_Md_chance_7 : decode M_Md_chance.2.1 7 = .ok (.ifCond .eq 13, 3) := by decide +kernel
theorem d_Md_chance_10 : decode M_Md_chance.2.1 10 = .ok (.iload_n 2, 1) := by decide +kernel
theorem d_Md_chance_11 : decode M_Md_chance.2.1 11 = .ok (.iconst 0, 1) := by decide +kernel
theorem d_Md_chance_12 : decode M_Md_chance.2.1 12 = .ok (.bipush 9, 2) := by decide +kernel
theorem d_Md_chance_14 : decode M_Md_chance.2.1 14 = .ok (.invokestatic 89, 3) := by decide +kernel
theorem d_Md_chance_17 : decode M_Md_chance.2.1 17 = .ok (.ifCond .ne 5, 3) := by decide +kernel
theorem d_Md_chance_20 : decode M_Md_chance.2.1 20 = .ok (.iconst 0, 1) := by decide +kernel
theorem d_Md_chance_21 : decode M_Md_chance.2.1 21 = .ok (.ireturn, 1) := by decide +kernel
theorem d_Md_chance_22 : decode M_Md_chance.2.1 22 = .ok (.aload_n 0, 1) := by decide +kernel
theorem d_Md_chance_23 : decode M_Md_chance.2.1 23 = .ok (.getfield 7, 3) := by decide +kernel
theorem d_Md_chance_26 : decode M_Md_chance.2.1 26 = .ok (.sipush 160, 3) := by decide +kernel
theorem d_Md_chance_29 : decode M_Md_chance.2.1 29 = .ok (.iload_n 1, 1) := by decide +kernel
theorem d_Md_chance_30 : decode M_Md_chance.2.1 30 = .ok (.iadd, 1) := by decide +kernel
theorem d_Md_chance_31 : decode M_Md_chance.2.1 31 = .ok (.iload_n 2, 1) := by decide +kernel
theorem d_Md_chance_32 : decode M_Md_chance.2.1 32 = .ok (.iastore, 1) := by decide +kernel
theorem d_Md_chance_33 : decode M_Md_chance.2.1 33 = .ok (.iconst 1, 1) := by decide +kernel
theorem d_Md_chance_34 : decode M_Md_chance.2.1 34 = .ok (.ireturn, 1) := by decide +kernel
theorem d_Md_ruin_0 : decode M_Md_ruin.2.1 0 = .ok (.iload_n 1, 1) := by decide +kernel
theorem d_Md_ruin_1 : decode M_Md_ruin.2.1 1 = .ok (.iconst 0, 1) := by decide +kernel
theorem d_Md_ruin_2 : decode M_Md_ruin.2.1 2 = .ok (.sipush 9999, 3) := by decide +kernel
theorem d_Md_ruin_5 : decode M_Md_ruin.2.1 5 = .ok (.invokestatic 89, 3) := by decide +kernel
theorem d_Md_ruin_8 : decode M_Md_ruin.2.1 8 = .ok (.ifCond .ne 5, 3) := by decide +kernel
theorem d_Md_ruin_11 : decode M_Md_ruin.2.1 11 = .ok (.iconst 0, 1) := by decide +kernel
theorem d_Md_ruin_12 : decode M_Md_ruin.2.1 12 = .ok (.ireturn, 1) := by decide +kernel
theorem d_Md_ruin_13 : decode M_Md_ruin.2.1 13 = .ok (.aload_n 0, 1) := by decide +kernel
theorem d_Md_ruin_14 : decode M_Md_ruin.2.1 14 = .ok (.getfield 7, 3) := by decide +kernel
theorem d_Md_ruin_17 : decode M_Md_ruin.2.1 17 = .ok (.iconst 1, 1) := by decide +kernel
theorem d_Md_ruin_18 : decode M_Md_ruin.2.1 18 = .ok (.iload_n 1, 1) := by decide +kernel
theorem d_Md_ruin_19 : decode M_Md_ruin.2.1 19 = .ok (.iastore, 1) := by decide +kernel
theorem d_Md_ruin_20 : decode M_Md_ruin.2.1 20 = .ok (.iconst 1, 1) := by decide +kernel
theorem d_Md_ruin_21 : decode M_Md_ruin.2.1 21 = .ok (.ireturn, 1) := by decide +kernel
theorem d_Md_put_0 : decode M_Md_put.2.1 0 = .ok (.bipush 24, 2) := by decide +kernel
theorem d_Md_put_2 : decode M_Md_put.2.1 2 = .ok (.istore_n 2, 1) := by decide +kernel
theorem d_Md_put_3 : decode M_Md_put.2.1 3 = .ok (.iload_n 2, 1) := by decide +kernel
theorem d_Md_put_4 : decode M_Md_put.2.1 4 = .ok (.ifCond .lt 34, 3) := by decide +kernel
theorem d_Md_put_7 : decode M_Md_put.2.1 7 = .ok (.aload_n 0, 1) := by decide +kernel
theorem d_Md_put_8 : decode M_Md_put.2.1 8 = .ok (.getfield 16, 3) := by decide +kernel
theorem d_Md_put_11 : decode M_Md_put.2.1 11 = .ok (.aload_n 0, 1) := by decide +kernel
theorem d_Md_put_12 : decode M_Md_put.2.1 12 = .ok (.getfield 107, 3) := by decide +kernel
theorem d_Md_put_15 : decode M_Md_put.2.1 15 = .ok (.iload_n 1, 1) := by decide +kernel
theorem d_Md_put_16 : decode M_Md_put.2.1 16 = .ok (.iload_n 2, 1) := by decide +kernel
theorem d_Md_put_17 : decode M_Md_put.2.1 17 = .ok (.ishr, 1) := by decide +kernel
theorem d_Md_put_18 : decode M_Md_put.2.1 18 = .ok (.i2b, 1) := by decide +kernel
theorem d_Md_put_19 : decode M_Md_put.2.1 19 = .ok (.bastore, 1) := by decide +kernel
theorem d_Md_put_20 : decode M_Md_put.2.1 20 = .ok (.aload_n 0, 1) := by decide +kernel
theorem d_Md_put_21 : decode M_Md_put.2.1 21 = .ok (.dup, 1) := by decide +kernel
theorem d_Md_put_22 : decode M_Md_put.2.1 22 = .ok (.getfield 107, 3) := by decide +kernel
theorem d_Md_put_25 : decode M_Md_put.2.1 25 = .ok (.iconst 1, 1) := by decide +kernel
theorem d_Md_put_26 : decode M_Md_put.2.1 26 = .ok (.iadd, 1) := by decide +kernel
theorem d_Md_put_27 : decode M_Md_put.2.1 27 = .ok (.putfield 107, 3) := by decide +kernel
theorem d_Md_put_30 : decode M_Md_put.2.1 30 = .ok (.iload_n 2, 1) := by decide +kernel
theorem d_Md_put_31 : decode M_Md_put.2.1 31 = .ok (.bipush 8, 2) := by decide +kernel
theorem d_Md_put_33 : decode M_Md_put.2.1 33 = .ok (.isub, 1) := by decide +kernel
theorem d_Md_put_34 : decode M_Md_put.2.1 34 = .ok (.istore_n 2, 1) := by decide +kernel
theorem d_Md_put_35 : decode M_Md_put.2.1 35 = .ok (.goto (-32), 3) := by decide +kernel
theorem d_Md_put_38 : decode M_Md_put.2.1 38 = .ok (.return_, 1) := by decide +kernel
theorem d_Md_feed_0 : decode M_Md_feed.2.1 0 = .ok (.aload_n 0, 1) := by decide +kernel
theorem d_Md_feed_1 : decode M_Md_feed.2.1 1 = .ok (.getfield 107, 3) := by decide +kernel
theorem d_Md_feed_4 : decode M_Md_feed.2.1 4 = .ok (.bipush 20, 2) := by decide +kernel
theorem d_Md_feed_6 : decode M_Md_feed.2.1 6 = .ok (.iadd, 1) := by decide +kernel
theorem d_Md_feed_7 : decode M_Md_feed.2.1 7 = .ok (.sipush 300, 3) := by decide +kernel
theorem d_Md_feed_10 : decode M_Md_feed.2.1 10 = .ok (.if_icmp .le 5, 3) := by decide +kernel
theorem d_Md_feed_13 : decode M_Md_feed.2.1 13 = .ok (.iconst (-1), 1) := by decide +kernel
theorem d_Md_feed_14 : decode M_Md_feed.2.1 14 = .ok (.ireturn, 1) := by decide +kernel
theorem d_Md_feed_15 : decode M_Md_feed.2.1 15 = .ok (.aload_n 0, 1) := by decide +kernel
theorem d_Md_feed_16 : decode M_Md_feed.2.1 16 = .ok (.iload_n 1, 1) := by decide +kernel
theorem d_Md_feed_17 : decode M_Md_feed.2.1 17 = .ok (.invokevirtual 110, 3) := by decide +kernel
theorem d_Md_feed_20 : decode M_Md_feed.2.1 20 = .ok (.aload_n 0, 1) := by decide +kernel
theorem d_Md_feed_21 : decode M_Md_feed.2.1 21 = .ok (.iload_n 2, 1) := by decide +kernel
theorem d_Md_feed_22 : decode M_Md_feed.2.1 22 = .ok (.invokevirtual 110, 3) := by decide +kernel
theorem d_Md_feed_25 : decode M_Md_feed.2.1 25 = .ok (.aload_n 0, 1) := by decide +kernel
theorem d_Md_feed_26 : decode M_Md_feed.2.1 26 = .ok (.iload_n 3, 1) := by decide +kernel
theorem d_Md_feed_27 : decode M_Md_feed.2.1 27 = .ok (.invokevirtual 110, 3) := by decide +kernel
theorem d_Md_feed_30 : decode M_Md_feed.2.1 30 = .ok (.aload_n 0, 1) := by decide +kernel
theorem d_Md_feed_31 : decode M_Md_feed.2.1 31 = .ok (.iload 4, 2) := by decide +kernel
theorem d_Md_feed_33 : decode M_Md_feed.2.1 33 = .ok (.invokevirtual 110, 3) := by decide +kernel
theorem d_Md_feed_36 : decode M_Md_feed.2.1 36 = .ok (.aload_n 0, 1) := by decide +kernel
theorem d_Md_feed_37 : decode M_Md_feed.2.1 37 = .ok (.iload 5, 2) := by decide +kernel
theorem d_Md_feed_39 : decode M_Md_feed.2.1 39 = .ok (.invokevirtual 110, 3) := by decide +kernel
theorem d_Md_feed_42 : decode M_Md_feed.2.1 42 = .ok (.aload_n 0, 1) := by decide +kernel
theorem d_Md_feed_43 : decode M_Md_feed.2.1 43 = .ok (.getfield 107, 3) := by decide +kernel
theorem d_Md_feed_46 : decode M_Md_feed.2.1 46 = .ok (.ireturn, 1) := by decide +kernel
theorem d_Md_end_0 : decode M_Md_end.2.1 0 = .ok (.iload_n 1, 1) := by decide +kernel
theorem d_Md_end_1 : decode M_Md_end.2.1 1 = .ok (.iconst 0, 1) := by decide +kernel
theorem d_Md_end_2 : decode M_Md_end.2.1 2 = .ok (.aload_n 0, 1) := by decide +kernel
theorem d_Md_end_3 : decode M_Md_end.2.1 3 = .ok (.getfield 107, 3) := by decide +kernel
theorem d_Md_end_6 : decode M_Md_end.2.1 6 = .ok (.invokestatic 89, 3) := by decide +kernel
theorem d_Md_end_9 : decode M_Md_end.2.1 9 = .ok (.ifCond .ne 5, 3) := by decide +kernel
theorem d_Md_end_12 : decode M_Md_end.2.1 12 = .ok (.iconst (-1), 1) := by decide +kernel
theorem d_Md_end_13 : decode M_Md_end.2.1 13 = .ok (.ireturn, 1) := by decide +kernel
theorem d_Md_end_14 : decode M_Md_end.2.1 14 = .ok (.aload_n 0, 1) := by decide +kernel
theorem d_Md_end_15 : decode M_Md_end.2.1 15 = .ok (.iload_n 1, 1) := by decide +kernel
theorem d_Md_end_16 : decode M_Md_end.2.1 16 = .ok (.putfield 107, 3) := by decide +kernel
theorem d_Md_end_19 : decode M_Md_end.2.1 19 = .ok (.iload_n 1, 1) := by decide +kernel
theorem d_Md_end_20 : decode M_Md_end.2.1 20 = .ok (.ireturn, 1) := by decide +kernel
theorem d_Md_isLetter_0 : decode M_Md_isLetter.2.1 0 = .ok (.iload_n 0, 1) := by decide +kernel
theorem d_Md_isLetter_1 : decode M_Md_isLetter.2.1 1 = .ok (.bipush 97, 2) := by decide +kernel
theorem d_Md_isLetter_3 : decode M_Md_isLetter.2.1 3 = .ok (.bipush 122, 2) := by decide +kernel
theorem d_Md_isLetter_5 : decode M_Md_isLetter.2.1 5 = .ok (.invokestatic 89, 3) := by decide +kernel
theorem d_Md_isLetter_8 : decode M_Md_isLetter.2.1 8 = .ok (.ifCond .ne 14, 3) := by decide +kernel
theorem d_Md_isLetter_11 : decode M_Md_isLetter.2.1 11 = .ok (.iload_n 0, 1) := by decide +kernel
theorem d_Md_isLetter_12 : decode M_Md_isLetter.2.1 12 = .ok (.bipush 65, 2) := by decide +kernel
theorem d_Md_isLetter_14 : decode M_Md_isLetter.2.1 14 = .ok (.bipush 90, 2) := by decide +kernel
theorem d_Md_isLetter_16 : decode M_Md_isLetter.2.1 16 = .ok (.invokestatic 89, 3) := by decide +kernel
theorem d_Md_isLetter_19 : decode M_Md_isLetter.2.1 19 = .ok (.ifCond .eq 7, 3) := by decide +kernel
theorem d_Md_isLetter_22 : decode M_Md_isLetter.2.1 22 = .ok (.iconst 1, 1) := by decide +kernel
theorem d_Md_isLetter_23 : decode M_Md_isLetter.2.1 23 = .ok (.goto 4, 3) := by decide +kernel
theorem d_Md_isLetter_26 : decode M_Md_isLetter.2.1 26 = .ok (.iconst 0, 1) := by decide +kernel
theorem d_Md_isLetter_27 : decode M_Md_isLetter.2.1 27 = .ok (.ireturn, 1) := by decide +kernel
theorem d_Md_wordOf_0 : decode M_Md_wordOf.2.1 0 = .ok (.lload_n 0, 1) := by decide +kernel
theorem d_Md_wordOf_1 : decode M_Md_wordOf.2.1 1 = .ok (.ldc2_w 114, 3) := by decide +kernel
theorem d_Md_wordOf_4 : decode M_Md_wordOf.2.1 4 = .ok (.lcmp, 1) := by decide +kernel
theorem d_Md_wordOf_5 : decode M_Md_wordOf.2.1 5 = .ok (.ifCond .ne 5, 3) := by decide +kernel
theorem d_Md_wordOf_8 : decode M_Md_wordOf.2.1 8 = .ok (.iconst 0, 1) := by decide +kernel
theorem d_Md_wordOf_9 : decode M_Md_wordOf.2.1 9 = .ok (.ireturn, 1) := by decide +kernel
theorem d_Md_wordOf_10 : decode M_Md_wordOf.2.1 10 = .ok (.lload_n 0, 1) := by decide +kernel
theorem d_Md_wordOf_11 : decode M_Md_wordOf.2.1 11 = .ok (.ldc2_w 116, 3) := by decide +kernel
theorem d_Md_wordOf_14 : decode M_Md_wordOf.2.1 14 = .ok (.lcmp, 1) := by decide +kernel
theorem d_Md_wordOf_15 : decode M_Md_wordOf.2.1 15 = .ok (.ifCond .ne 5, 3) := by decide +kernel
theorem d_Md_wordOf_18 : decode M_Md_wordOf.2.1 18 = .ok (.iconst 1, 1) := by decide +kernel
theorem d_Md_wordOf_19 : decode M_Md_wordOf.2.1 19 = .ok (.ireturn, 1) := by decide +kernel
theorem d_Md_wordOf_20 : decode M_Md_wordOf.2.1 20 = .ok (.lload_n 0, 1) := by decide +kernel
theorem d_Md_wordOf_21 : decode M_Md_wordOf.2.1 21 = .ok (.ldc2_w 118, 3) := by decide +kernel
theorem d_Md_wordOf_24 : decode M_Md_wordOf.2.1 24 = .ok (.lcmp, 1) := by decide +kernel
theorem d_Md_wordOf_25 : decode M_Md_wordOf.2.1 25 = .ok (.ifCond .ne 5, 3) := by decide +kernel
theorem d_Md_wordOf_28 : decode M_Md_wordOf.2.1 28 = .ok (.iconst 2, 1) := by decide +kernel
theorem d_Md_wordOf_29 : decode M_Md_wordOf.2.1 29 = .ok (.ireturn, 1) := by decide +kernel
theorem d_Md_wordOf_30 : decode M_Md_wordOf.2.1 30 = .ok (.lload_n 0, 1) := by decide +kernel
theorem d_Md_wordOf_31 : decode M_Md_wordOf.2.1 31 = .ok (.ldc2_w 120, 3) := by decide +kernel
theorem d_Md_wordOf_34 : decode M_Md_wordOf.2.1 34 = .ok (.lcmp, 1) := by decide +kernel
theorem d_Md_wordOf_35 : decode M_Md_wordOf.2.1 35 = .ok (.ifCond .ne 5, 3) := by decide +kernel
theorem d_Md_wordOf_38 : decode M_Md_wordOf.2.1 38 = .ok (.iconst 3, 1) := by decide +kernel
theorem d_Md_wordOf_39 : decode M_Md_wordOf.2.1 39 = .ok (.ireturn, 1) := by decide +kernel
theorem d_Md_wordOf_40 : decode M_Md_wordOf.2.1 40 = .ok (.lload_n 0, 1) := by decide +kernel
theorem d_Md_wordOf_41 : decode M_Md_wordOf.2.1 41 = .ok (.ldc2_w 122, 3) := by decide +kernel
theorem d_Md_wordOf_44 : decode M_Md_wordOf.2.1 44 = .ok (.lcmp, 1) := by decide +kernel
theorem d_Md_wordOf_45 : decode M_Md_wordOf.2.1 45 = .ok (.ifCond .ne 5, 3) := by decide +kernel
theorem d_Md_wordOf_48 : decode M_Md_wordOf.2.1 48 = .ok (.iconst 4, 1) := by decide +kernel
theorem d_Md_wordOf_49 : decode M_Md_wordOf.2.1 49 = .ok (.ireturn, 1) := by decide +kernel
theorem d_Md_wordOf_50 : decode M_Md_wordOf.2.1 50 = .ok (.lload_n 0, 1) := by decide +kernel
theorem d_Md_wordOf_51 : decode M_Md_wordOf.2.1 51 = .ok (.ldc2_w 124, 3) := by decide +kernel
theorem d_Md_wordOf_54 : decode M_Md_wordOf.2.1 54 = .ok (.lcmp, 1) := by decide +kernel
theorem d_Md_wordOf_55 : decode M_Md_wordOf.2.1 55 = .ok (.ifCond .ne 5, 3) := by decide +kernel
theorem d_Md_wordOf_58 : decode M_Md_wordOf.2.1 58 = .ok (.iconst 5, 1) := by decide +kernel
theorem d_Md_wordOf_59 : decode M_Md_wordOf.2.1 59 = .ok (.ireturn, 1) := by decide +kernel
theorem d_Md_wordOf_60 : decode M_Md_wordOf.2.1 60 = .ok (.lload_n 0, 1) := by decide +kernel
theorem d_Md_wordOf_61 : decode M_Md_wordOf.2.1 61 = .ok (.ldc2_w 126, 3) := by decide +kernel
theorem d_Md_wordOf_64 : decode M_Md_wordOf.2.1 64 = .ok (.lcmp, 1) := by decide +kernel
theorem d_Md_wordOf_65 : decode M_Md_wordOf.2.1 65 = .ok (.ifCond .ne 6, 3) := by decide +kernel
theorem d_Md_wordOf_68 : decode M_Md_wordOf.2.1 68 = .ok (.bipush 6, 2) := by decide +kernel
theorem d_Md_wordOf_70 : decode M_Md_wordOf.2.1 70 = .ok (.ireturn, 1) := by decide +kernel
theorem d_Md_wordOf_71 : decode M_Md_wordOf.2.1 71 = .ok (.lload_n 0, 1) := by decide +kernel
theorem d_Md_wordOf_72 : decode M_Md_wordOf.2.1 72 = .ok (.ldc2_w 128, 3) := by decide +kernel
theorem d_Md_wordOf_75 : decode M_Md_wordOf.2.1 75 = .ok (.lcmp, 1) := by decide +kernel
theorem d_Md_wordOf_76 : decode M_Md_wordOf.2.1 76 = .ok (.ifCond .ne 6, 3) := by decide +kernel
theorem d_Md_wordOf_79 : decode M_Md_wordOf.2.1 79 = .ok (.bipush 7, 2) := by decide +kernel
theorem d_Md_wordOf_81 : decode M_Md_wordOf.2.1 81 = .ok (.ireturn, 1) := by decide +kernel
theorem d_Md_wordOf_82 : decode M_Md_wordOf.2.1 82 = .ok (.lload_n 0, 1) := by decide +kernel
theorem d_Md_wordOf_83 : decode M_Md_wordOf.2.1 83 = .ok (.ldc2_w 130, 3) := by decide +kernel
theorem d_Md_wordOf_86 : decode M_Md_wordOf.2.1 86 = .ok (.lcmp, 1) := by decide +kernel
theorem d_Md_wordOf_87 : decode M_Md_wordOf.2.1 87 = .ok (.ifCond .ne 6, 3) := by decide +kernel
theorem d_Md_wordOf_90 : decode M_Md_wordOf.2.1 90 = .ok (.bipush 8, 2) := by decide +kernel
theorem d_Md_wordOf_92 : decode M_Md_wordOf.2.1 92 = .ok (.ireturn, 1) := by decide +kernel
theorem d_Md_wordOf_93 : decode M_Md_wordOf.2.1 93 = .ok (.lload_n 0, 1) := by decide +kernel
theorem d_Md_wordOf_94 : decode M_Md_wordOf.2.1 94 = .ok (.ldc2_w 132, 3) := by decide +kernel
theorem d_Md_wordOf_97 : decode M_Md_wordOf.2.1 97 = .ok (.lcmp, 1) := by decide +kernel
theorem d_Md_wordOf_98 : decode M_Md_wordOf.2.1 98 = .ok (.ifCond .ne 6, 3) := by decide +kernel
theorem d_Md_wordOf_101 : decode M_Md_wordOf.2.1 101 = .ok (.bipush 9, 2) := by decide +kernel
theorem d_Md_wordOf_103 : decode M_Md_wordOf.2.1 103 = .ok (.ireturn, 1) := by decide +kernel
theorem d_Md_wordOf_104 : decode M_Md_wordOf.2.1 104 = .ok (.lload_n 0, 1) := by decide +kernel
theorem d_Md_wordOf_105 : decode M_Md_wordOf.2.1 105 = .ok (.ldc2_w 134, 3) := by decide +kernel
theorem d_Md_wordOf_108 : decode M_Md_wordOf.2.1 108 = .ok (.lcmp, 1) := by decide +kernel
theorem d_Md_wordOf_109 : decode M_Md_wordOf.2.1 109 = .ok (.ifCond .ne 6, 3) := by decide +kernel
theorem d_Md_wordOf_112 : decode M_Md_wordOf.2.1 112 = .ok (.bipush 10, 2) := by decide +kernel
theorem d_Md_wordOf_114 : decode M_Md_wordOf.2.1 114 = .ok (.ireturn, 1) := by decide +kernel
theorem d_Md_wordOf_115 : decode M_Md_wordOf.2.1 115 = .ok (.lload_n 0, 1) := by decide +kernel
theorem d_Md_wordOf_116 : decode M_Md_wordOf.2.1 116 = .ok (.ldc2_w 136, 3) := by decide +kernel
theorem d_Md_wordOf_119 : decode M_Md_wordOf.2.1 119 = .ok (.lcmp, 1) := by decide +kernel
theorem d_Md_wordOf_120 : decode M_Md_wordOf.2.1 120 = .ok (.ifCond .ne 6, 3) := by decide +kernel
theorem d_Md_wordOf_123 : decode M_Md_wordOf.2.1 123 = .ok (.bipush 11, 2) := by decide +kernel
theorem d_Md_wordOf_125 : decode M_Md_wordOf.2.1 125 = .ok (.ireturn, 1) := by decide +kernel
theorem d_Md_wordOf_126 : decode M_Md_wordOf.2.1 126 = .ok (.lload_n 0, 1) := by decide +kernel
theorem d_Md_wordOf_127 : decode M_Md_wordOf.2.1 127 = .ok (.ldc2_w 138, 3) := by decide +kernel
theorem d_Md_wordOf_130 : decode M_Md_wordOf.2.1 130 = .ok (.lcmp, 1) := by decide +kernel
theorem d_Md_wordOf_131 : decode M_Md_wordOf.2.1 131 = .ok (.ifCond .ne 6, 3) := by decide +kernel
theorem d_Md_wordOf_134 : decode M_Md_wordOf.2.1 134 = .ok (.bipush 12, 2) := by decide +kernel
theorem d_Md_wordOf_136 : decode M_Md_wordOf.2.1 136 = .ok (.ireturn, 1) := by decide +kernel
theorem d_Md_wordOf_137 : decode M_Md_wordOf.2.1 137 = .ok (.lload_n 0, 1) := by decide +kernel
theorem d_Md_wordOf_138 : decode M_Md_wordOf.2.1 138 = .ok (.ldc2_w 140, 3) := by decide +kernel
theorem d_Md_wordOf_141 : decode M_Md_wordOf.2.1 141 = .ok (.lcmp, 1) := by decide +kernel
theorem d_Md_wordOf_142 : decode M_Md_wordOf.2.1 142 = .ok (.ifCond .ne 6, 3) := by decide +kernel
theorem d_Md_wordOf_145 : decode M_Md_wordOf.2.1 145 = .ok (.bipush 13, 2) := by decide +kernel
theorem d_Md_wordOf_147 : decode M_Md_wordOf.2.1 147 = .ok (.ireturn, 1) := by decide +kernel
theorem d_Md_wordOf_148 : decode M_Md_wordOf.2.1 148 = .ok (.lload_n 0, 1) := by decide +kernel
theorem d_Md_wordOf_149 : decode M_Md_wordOf.2.1 149 = .ok (.ldc2_w 142, 3) := by decide +kernel
theorem d_Md_wordOf_152 : decode M_Md_wordOf.2.1 152 = .ok (.lcmp, 1) := by decide +kernel
theorem d_Md_wordOf_153 : decode M_Md_wordOf.2.1 153 = .ok (.ifCond .ne 6, 3) := by decide +kernel
theorem d_Md_wordOf_156 : decode M_Md_wordOf.2.1 156 = .ok (.bipush 14, 2) := by decide +kernel
theorem d_Md_wordOf_158 : decode M_Md_wordOf.2.1 158 = .ok (.ireturn, 1) := by decide +kernel
theorem d_Md_wordOf_159 : decode M_Md_wordOf.2.1 159 = .ok (.lload_n 0, 1) := by decide +kernel
theorem d_Md_wordOf_160 : decode M_Md_wordOf.2.1 160 = .ok (.ldc2_w 144, 3) := by decide +kernel
theorem d_Md_wordOf_163 : decode M_Md_wordOf.2.1 163 = .ok (.lcmp, 1) := by decide +kernel
theorem d_Md_wordOf_164 : decode M_Md_wordOf.2.1 164 = .ok (.ifCond .ne 6, 3) := by decide +kernel
theorem d_Md_wordOf_167 : decode M_Md_wordOf.2.1 167 = .ok (.bipush 15, 2) := by decide +kernel
theorem d_Md_wordOf_169 : decode M_Md_wordOf.2.1 169 = .ok (.ireturn, 1) := by decide +kernel
theorem d_Md_wordOf_170 : decode M_Md_wordOf.2.1 170 = .ok (.lload_n 0, 1) := by decide +kernel
theorem d_Md_wordOf_171 : decode M_Md_wordOf.2.1 171 = .ok (.ldc2_w 146, 3) := by decide +kernel
theorem d_Md_wordOf_174 : decode M_Md_wordOf.2.1 174 = .ok (.lcmp, 1) := by decide +kernel
theorem d_Md_wordOf_175 : decode M_Md_wordOf.2.1 175 = .ok (.ifCond .ne 6, 3) := by decide +kernel
theorem d_Md_wordOf_178 : decode M_Md_wordOf.2.1 178 = .ok (.bipush 16, 2) := by decide +kernel
theorem d_Md_wordOf_180 : decode M_Md_wordOf.2.1 180 = .ok (.ireturn, 1) := by decide +kernel
theorem d_Md_wordOf_181 : decode M_Md_wordOf.2.1 181 = .ok (.lload_n 0, 1) := by decide +kernel
theorem d_Md_wordOf_182 : decode M_Md_wordOf.2.1 182 = .ok (.ldc2_w 148, 3) := by decide +kernel
theorem d_Md_wordOf_185 : decode M_Md_wordOf.2.1 185 = .ok (.lcmp, 1) := by decide +kernel
theorem d_Md_wordOf_186 : decode M_Md_wordOf.2.1 186 = .ok (.ifCond .ne 6, 3) := by decide +kernel
theorem d_Md_wordOf_189 : decode M_Md_wordOf.2.1 189 = .ok (.bipush 17, 2) := by decide +kernel
theorem d_Md_wordOf_191 : decode M_Md_wordOf.2.1 191 = .ok (.ireturn, 1) := by decide +kernel
theorem d_Md_wordOf_192 : decode M_Md_wordOf.2.1 192 = .ok (.lload_n 0, 1) := by decide +kernel
theorem d_Md_wordOf_193 : decode M_Md_wordOf.2.1 193 = .ok (.ldc2_w 150, 3) := by decide +kernel
theorem d_Md_wordOf_196 : decode M_Md_wordOf.2.1 196 = .ok (.lcmp, 1) := by decide +kernel
theorem d_Md_wordOf_197 : decode M_Md_wordOf.2.1 197 = .ok (.ifCond .ne 6, 3) := by decide +kernel
theorem d_Md_wordOf_200 : decode M_Md_wordOf.2.1 200 = .ok (.bipush 18, 2) := by decide +kernel
theorem d_Md_wordOf_202 : decode M_Md_wordOf.2.1 202 = .ok (.ireturn, 1) := by decide +kernel
theorem d_Md_wordOf_203 : decode M_Md_wordOf.2.1 203 = .ok (.lload_n 0, 1) := by decide +kernel
theorem d_Md_wordOf_204 : decode M_Md_wordOf.2.1 204 = .ok (.ldc2_w 152, 3) := by decide +kernel
theorem d_Md_wordOf_207 : decode M_Md_wordOf.2.1 207 = .ok (.lcmp, 1) := by decide +kernel
theorem d_Md_wordOf_208 : decode M_Md_wordOf.2.1 208 = .ok (.ifCond .ne 6, 3) := by decide +kernel
theorem d_Md_wordOf_211 : decode M_Md_wordOf.2.1 211 = .ok (.bipush 19, 2) := by decide +kernel
theorem d_Md_wordOf_213 : decode M_Md_wordOf.2.1 213 = .ok (.ireturn, 1) := by decide +kernel
theorem d_Md_wordOf_214 : decode M_Md_wordOf.2.1 214 = .ok (.lload_n 0, 1) := by decide +kernel
theorem d_Md_wordOf_215 : decode M_Md_wordOf.2.1 215 = .ok (.ldc2_w 154, 3) := by decide +kernel
theorem d_Md_wordOf_218 : decode M_Md_wordOf.2.1 218 = .ok (.lcmp, 1) := by decide +kernel
theorem d_Md_wordOf_219 : decode M_Md_wordOf.2.1 219 = .ok (.ifCond .ne 6, 3) := by decide +kernel
theorem d_Md_wordOf_222 : decode M_Md_wordOf.2.1 222 = .ok (.bipush 20, 2) := by decide +kernel
theorem d_Md_wordOf_224 : decode M_Md_wordOf.2.1 224 = .ok (.ireturn, 1) := by decide +kernel
theorem d_Md_wordOf_225 : decode M_Md_wordOf.2.1 225 = .ok (.lload_n 0, 1) := by decide +kernel
theorem d_Md_wordOf_226 : decode M_Md_wordOf.2.1 226 = .ok (.ldc2_w 156, 3) := by decide +kernel
theorem d_Md_wordOf_229 : decode M_Md_wordOf.2.1 229 = .ok (.lcmp, 1) := by decide +kernel
theorem d_Md_wordOf_230 : decode M_Md_wordOf.2.1 230 = .ok (.ifCond .ne 6, 3) := by decide +kernel
theorem d_Md_wordOf_233 : decode M_Md_wordOf.2.1 233 = .ok (.bipush 21, 2) := by decide +kernel
theorem d_Md_wordOf_235 : decode M_Md_wordOf.2.1 235 = .ok (.ireturn, 1) := by decide +kernel
theorem d_Md_wordOf_236 : decode M_Md_wordOf.2.1 236 = .ok (.iconst (-1), 1) := by decide +kernel
theorem d_Md_wordOf_237 : decode M_Md_wordOf.2.1 237 = .ok (.ireturn, 1) := by decide +kernel
theorem d_Md_next_0 : decode M_Md_next.2.1 0 = .ok (.aload_n 0, 1) := by decide +kernel
theorem d_Md_next_1 : decode M_Md_next.2.1 1 = .ok (.getfield 158, 3) := by decide +kernel
theorem d_Md_next_4 : decode M_Md_next.2.1 4 = .ok (.aload_n 0, 1) := by decide +kernel
theorem d_Md_next_5 : decode M_Md_next.2.1 5 = .ok (.getfield 161, 3) := by decide +kernel
theorem d_Md_next_8 : decode M_Md_next.2.1 8 = .ok (.if_icmp .ge 44, 3) := by decide +kernel
theorem d_Md_next_11 : decode M_Md_next.2.1 11 = .ok (.aload_n 0, 1) := by decide +kernel
theorem d_Md_next_12 : decode M_Md_next.2.1 12 = .ok (.getfield 16, 3) := by decide +kernel
theorem d_Md_next_15 : decode M_Md_next.2.1 15 = .ok (.aload_n 0, 1) := by decide +kernel
theorem d_Md_next_16 : decode M_Md_next.2.1 16 = .ok (.getfield 158, 3) := by decide +kernel
theorem d_Md_next_19 : decode M_Md_next.2.1 19 = .ok (.baload, 1) := by decide +kernel
theorem d_Md_next_20 : decode M_Md_next.2.1 20 = .ok (.bipush 32, 2) := by decide +kernel
theorem d_Md_next_22 : decode M_Md_next.2.1 22 = .ok (.if_icmp .eq 17, 3) := by decide +kernel
theorem d_Md_next_25 : decode M_Md_next.2.1 25 = .ok (.aload_n 0, 1) := by decide +kernel
theorem d_Md_next_26 : decode M_Md_next.2.1 26 = .ok (.getfield 16, 3) := by decide +kernel
theorem d_Md_next_29 : decode M_Md_next.2.1 29 = .ok (.aload_n 0, 1) := by decide +kernel
theorem d_Md_next_30 : decode M_Md_next.2.1 30 = .ok (.getfield 158, 3) := by decide +kernel
theorem d_Md_next_33 : decode M_Md_next.2.1 33 = .ok (.baload, 1) := by decide +kernel
theorem d_Md_next_34 : decode M_Md_next.2.1 34 = .ok (.bipush 10, 2) := by decide +kernel
theorem d_Md_next_36 : decode M_Md_next.2.1 36 = .ok (.if_icmp .ne 16, 3) := by decide +kernel
theorem d_Md_next_39 : decode M_Md_next.2.1 39 = .ok (.aload_n 0, 1) := by decide +kernel
theorem d_Md_next_40 : decode M_Md_next.2.1 40 = .ok (.dup, 1) := by decide +kernel
theorem d_Md_next_41 : decode M_Md_next.2.1 41 = .ok (.getfield 158, 3) := by decide +kernel
theorem d_Md_next_44 : decode M_Md_next.2.1 44 = .ok (.iconst 1, 1) := by decide +kernel
theorem d_Md_next_45 : decode M_Md_next.2.1 45 = .ok (.iadd, 1) := by decide +kernel
theorem d_Md_next_46 : decode M_Md_next.2.1 46 = .ok (.putfield 158, 3) := by decide +kernel
theorem d_Md_next_49 : decode M_Md_next.2.1 49 = .ok (.goto (-49), 3) := by decide +kernel
theorem d_Md_next_52 : decode M_Md_next.2.1 52 = .ok (.aload_n 0, 1) := by decide +kernel
theorem d_Md_next_53 : decode M_Md_next.2.1 53 = .ok (.aload_n 0, 1) := by decide +kernel
theorem d_Md_next_54 : decode M_Md_next.2.1 54 = .ok (.getfield 158, 3) := by decide +kernel
theorem d_Md_next_57 : decode M_Md_next.2.1 57 = .ok (.putfield 164, 3) := by decide +kernel
theorem d_Md_next_60 : decode M_Md_next.2.1 60 = .ok (.aload_n 0, 1) := by decide +kernel
theorem d_Md_next_61 : decode M_Md_next.2.1 61 = .ok (.getfield 158, 3) := by decide +kernel
theorem d_Md_next_64 : decode M_Md_next.2.1 64 = .ok (.aload_n 0, 1) := by decide +kernel
theorem d_Md_next_65 : decode M_Md_next.2.1 65 = .ok (.getfield 161, 3) := by decide +kernel
theorem d_Md_next_68 : decode M_Md_next.2.1 68 = .ok (.if_icmp .ne 9, 3) := by decide +kernel
theorem d_Md_next_71 : decode M_Md_next.2.1 71 = .ok (.aload_n 0, 1) := by decide +kernel
theorem d_Md_next_72 : decode M_Md_next.2.1 72 = .ok (.iconst 0, 1) := by decide +kernel
theorem d_Md_next_73 : decode M_Md_next.2.1 73 = .ok (.putfield 167, 3) := by decide +kernel
theorem d_Md_next_76 : decode M_Md_next.2.1 76 = .ok (.return_, 1) := by decide +kernel
theorem d_Md_next_77 : decode M_Md_next.2.1 77 = .ok (.aload_n 0, 1) := by decide +kernel
theorem d_Md_next_78 : decode M_Md_next.2.1 78 = .ok (.getfield 16, 3) := by decide +kernel
theorem d_Md_next_81 : decode M_Md_next.2.1 81 = .ok (.aload_n 0, 1) := by decide +kernel
theorem d_Md_next_82 : decode M_Md_next.2.1 82 = .ok (.getfield 158, 3) := by decide +kernel
theorem d_Md_next_85 : decode M_Md_next.2.1 85 = .ok (.baload, 1) := by decide +kernel
theorem d_Md_next_86 : decode M_Md_next.2.1 86 = .ok (.istore_n 1, 1) := by decide +kernel
theorem d_Md_next_87 : decode M_Md_next.2.1 87 = .ok (.iload_n 1, 1) := by decide +kernel
theorem d_Md_next_88 : decode M_Md_next.2.1 88 = .ok (.invokestatic 170, 3) := by decide +kernel
theorem d_Md_next_91 : decode M_Md_next.2.1 91 = .ok (.ifCond .eq 120, 3) := by decide +kernel
theorem d_Md_next_94 : decode M_Md_next.2.1 94 = .ok (.lconst 0, 1) := by decide +kernel
theorem d_Md_next_95 : decode M_Md_next.2.1 95 = .ok (.lstore_n 2, 1) := by decide +kernel
theorem d_Md_next_96 : decode M_Md_next.2.1 96 = .ok (.iconst 0, 1) := by decide +kernel
theorem d_Md_next_97 : decode M_Md_next.2.1 97 = .ok (.istore 4, 2) := by decide +kernel
theorem d_Md_next_99 : decode M_Md_next.2.1 99 = .ok (.aload_n 0, 1) := by decide +kernel
theorem d_Md_next_100 : decode M_Md_next.2.1 100 = .ok (.getfield 158, 3) := by decide +kernel
theorem d_Md_next_103 : decode M_Md_next.2.1 103 = .ok (.aload_n 0, 1) := by decide +kernel
theorem d_Md_next_104 : decode M_Md_next.2.1 104 = .ok (.getfield 161, 3) := by decide +kernel
theorem d_Md_next_107 : decode M_Md_next.2.1 107 = .ok (.if_icmp .ge 66, 3) := by decide +kernel
theorem d_Md_next_110 : decode M_Md_next.2.1 110 = .ok (.aload_n 0, 1) := by decide +kernel
theorem d_Md_next_111 : decode M_Md_next.2.1 111 = .ok (.getfield 16, 3) := by decide +kernel
theorem d_Md_next_114 : decode M_Md_next.2.1 114 = .ok (.aload_n 0, 1) := by decide +kernel
theorem d_Md_next_115 : decode M_Md_next.2.1 115 = .ok (.getfield 158, 3) := by decide +kernel
theorem d_Md_next_118 : decode M_Md_next.2.1 118 = .ok (.baload, 1) := by decide +kernel
theorem d_Md_next_119 : decode M_Md_next.2.1 119 = .ok (.invokestatic 170, 3) := by decide +kernel
theorem d_Md_next_122 : decode M_Md_next.2.1 122 = .ok (.ifCond .eq 51, 3) := by decide +kernel
theorem d_Md_next_125 : decode M_Md_next.2.1 125 = .ok (.iload 4, 2) := by decide +kernel
theorem d_Md_next_127 : decode M_Md_next.2.1 127 = .ok (.bipush 9, 2) := by decide +kernel
theorem d_Md_next_129 : decode M_Md_next.2.1 129 = .ok (.if_icmp .ge 26, 3) := by decide +kernel
theorem d_Md_next_132 : decode M_Md_next.2.1 132 = .ok (.ldc2_w 173, 3) := by decide +kernel
theorem d_Md_next_135 : decode M_Md_next.2.1 135 = .ok (.lload_n 2, 1) := by decide +kernel
theorem d_Md_next_136 : decode M_Md_next.2.1 136 = .ok (.lmul, 1) := by decide +kernel
theorem d_Md_next_137 : decode M_Md_next.2.1 137 = .ok (.aload_n 0, 1) := by decide +kernel
theorem d_Md_next_138 : decode M_Md_next.2.1 138 = .ok (.getfield 16, 3) := by decide +kernel
theorem d_Md_next_141 : decode M_Md_next.2.1 141 = .ok (.aload_n 0, 1) := by decide +kernel
theorem d_Md_next_142 : decode M_Md_next.2.1 142 = .ok (.getfield 158, 3) := by decide +kernel
theorem d_Md_next_145 : decode M_Md_next.2.1 145 = .ok (.baload, 1) := by decide +kernel
theorem d_Md_next_146 : decode M_Md_next.2.1 146 = .ok (.i2l, 1) := by decide +kernel
theorem d_Md_next_147 : decode M_Md_next.2.1 147 = .ok (.ladd, 1) := by decide +kernel
theorem d_Md_next_148 : decode M_Md_next.2.1 148 = .ok (.ldc2_w 173, 3) := by decide +kernel
theorem d_Md_next_151 : decode M_Md_next.2.1 151 = .ok (.lsub, 1) := by decide +kernel
theorem d_Md_next_152 : decode M_Md_next.2.1 152 = .ok (.goto 4, 3) := by decide +kernel
theorem d_Md_next_155 : decode M_Md_next.2.1 155 = .ok (.lload_n 2, 1) := by decide +kernel
theorem d_Md_next_156 : decode M_Md_next.2.1 156 = .ok (.lstore_n 2, 1) := by decide +kernel
theorem d_Md_next_157 : decode M_Md_next.2.1 157 = .ok (.iinc 4 1, 3) := by decide +kernel
theorem d_Md_next_160 : decode M_Md_next.2.1 160 = .ok (.aload_n 0, 1) := by decide +kernel
theorem d_Md_next_161 : decode M_Md_next.2.1 161 = .ok (.dup, 1) := by decide +kernel
theorem d_Md_next_162 : decode M_Md_next.2.1 162 = .ok (.getfield 158, 3) := by decide +kernel
theorem d_Md_next_165 : decode M_Md_next.2.1 165 = .ok (.iconst 1, 1) := by decide +kernel
theorem d_Md_next_166 : decode M_Md_next.2.1 166 = .ok (.iadd, 1) := by decide +kernel
theorem d_Md_next_167 : decode M_Md_next.2.1 167 = .ok (.putfield 158, 3) := by decide +kernel
theorem d_Md_next_170 : decode M_Md_next.2.1 170 = .ok (.goto (-71), 3) := by decide +kernel
theorem d_Md_next_173 : decode M_Md_next.2.1 173 = .ok (.aload_n 0, 1) := by decide +kernel
theorem d_Md_next_174 : decode M_Md_next.2.1 174 = .ok (.iload 4, 2) := by decide +kernel
theorem d_Md_next_176 : decode M_Md_next.2.1 176 = .ok (.bipush 8, 2) := by decide +kernel
theorem d_Md_next_178 : decode M_Md_next.2.1 178 = .ok (.if_icmp .le 7, 3) := by decide +kernel
theorem d_Md_next_181 : decode M_Md_next.2.1 181 = .ok (.iconst (-1), 1) := by decide +kernel
theorem d_Md_next_182 : decode M_Md_next.2.1 182 = .ok (.goto 7, 3) := by decide +kernel
theorem d_Md_next_185 : decode M_Md_next.2.1 185 = .ok (.lload_n 2, 1) := by decide +kernel
theorem d_Md_next_186 : decode M_Md_next.2.1 186 = .ok (.invokestatic 175, 3) := by decide +kernel
theorem d_Md_next_189 : decode M_Md_next.2.1 189 = .ok (.putfield 179, 3) := by decide +kernel
theorem d_Md_next_192 : decode M_Md_next.2.1 192 = .ok (.aload_n 0, 1) := by decide +kernel
theorem d_Md_next_193 : decode M_Md_next.2.1 193 = .ok (.aload_n 0, 1) := by decide +kernel
theorem d_Md_next_194 : decode M_Md_next.2.1 194 = .ok (.getfield 179, 3) := by decide +kernel
theorem d_Md_next_197 : decode M_Md_next.2.1 197 = .ok (.ifCond .ge 7, 3) := by decide +kernel
theorem d_Md_next_200 : decode M_Md_next.2.1 200 = .ok (.iconst 4, 1) := by decide +kernel
theorem d_Md_next_201 : decode M_Md_next.2.1 201 = .ok (.goto 4, 3) := by decide +kernel
theorem d_Md_next_204 : decode M_Md_next.2.1 204 = .ok (.iconst 1, 1) := by decide +kernel
theorem d_Md_next_205 : decode M_Md_next.2.1 205 = .ok (.putfield 167, 3) := by decide +kernel
theorem d_Md_next_208 : decode M_Md_next.2.1 208 = .ok (.goto 231, 3) := by decide +kernel
theorem d_Md_next_211 : decode M_Md_next.2.1 211 = .ok (.iload_n 1, 1) := by decide +kernel
theorem d_Md_next_212 : decode M_Md_next.2.1 212 = .ok (.bipush 48, 2) := by decide +kernel
theorem d_Md_next_214 : decode M_Md_next.2.1 214 = .ok (.bipush 57, 2) := by decide +kernel
theorem d_Md_next_216 : decode M_Md_next.2.1 216 = .ok (.invokestatic 89, 3) := by decide +kernel
theorem d_Md_next_219 : decode M_Md_next.2.1 219 = .ok (.ifCond .eq 96, 3) := by decide +kernel
theorem d_Md_next_222 : decode M_Md_next.2.1 222 = .ok (.aload_n 0, 1) := by decide +kernel
theorem d_Md_next_223 : decode M_Md_next.2.1 223 = .ok (.iconst 2, 1) := by decide +kernel
theorem d_Md_next_224 : decode M_Md_next.2.1 224 = .ok (.putfield 167, 3) := by decide +kernel
theorem d_Md_next_227 : decode M_Md_next.2.1 227 = .ok (.aload_n 0, 1) := by decide +kernel
theorem d_Md_next_228 : decode M_Md_next.2.1 228 = .ok (.iconst 0, 1) := by decide +kernel
theorem d_Md_next_229 : decode M_Md_next.2.1 229 = .ok (.putfield 179, 3) := by decide +kernel
theorem d_Md_next_232 : decode M_Md_next.2.1 232 = .ok (.aload_n 0, 1) := by decide +kernel
theorem d_Md_next_233 : decode M_Md_next.2.1 233 = .ok (.getfield 158, 3) := by decide +kernel
theorem d_Md_next_236 : decode M_Md_next.2.1 236 = .ok (.aload_n 0, 1) := by decide +kernel
theorem d_Md_next_237 : decode M_Md_next.2.1 237 = .ok (.getfield 161, 3) := by decide +kernel
theorem d_Md_next_240 : decode M_Md_next.2.1 240 = .ok (.if_icmp .ge 199, 3) := by decide +kernel
theorem d_Md_next_243 : decode M_Md_next.2.1 243 = .ok (.aload_n 0, 1) := by decide +kernel
theorem d_Md_next_244 : decode M_Md_next.2.1 244 = .ok (.getfield 16, 3) := by decide +kernel
theorem d_Md_next_247 : decode M_Md_next.2.1 247 = .ok (.aload_n 0, 1) := by decide +kernel
theorem d_Md_next_248 : decode M_Md_next.2.1 248 = .ok (.getfield 158, 3) := by decide +kernel
theorem d_Md_next_251 : decode M_Md_next.2.1 251 = .ok (.baload, 1) := by decide +kernel
theorem d_Md_next_252 : decode M_Md_next.2.1 252 = .ok (.bipush 48, 2) := by decide +kernel
theorem d_Md_next_254 : decode M_Md_next.2.1 254 = .ok (.bipush 57, 2) := by decide +kernel
theorem d_Md_next_256 : decode M_Md_next.2.1 256 = .ok (.invokestatic 89, 3) := by decide +kernel
theorem d_Md_next_259 : decode M_Md_next.2.1 259 = .ok (.ifCond .eq 180, 3) := by decide +kernel
theorem d_Md_next_262 : decode M_Md_next.2.1 262 = .ok (.aload_n 0, 1) := by decide +kernel
theorem d_Md_next_263 : decode M_Md_next.2.1 263 = .ok (.aload_n 0, 1) := by decide +kernel
theorem d_Md_next_264 : decode M_Md_next.2.1 264 = .ok (.getfield 179, 3) := by decide +kernel
theorem d_Md_next_267 : decode M_Md_next.2.1 267 = .ok (.ldc 182, 2) := by decide +kernel
theorem d_Md_next_269 : decode M_Md_next.2.1 269 = .ok (.if_icmp .le 10, 3) := by decide +kernel
theorem d_Md_next_272 : decode M_Md_next.2.1 272 = .ok (.aload_n 0, 1) := by decide +kernel
theorem d_Md_next_273 : decode M_Md_next.2.1 273 = .ok (.getfield 179, 3) := by decide +kernel
theorem d_Md_next_276 : decode M_Md_next.2.1 276 = .ok (.goto 23, 3) := by decide +kernel
theorem d_Md_next_279 : decode M_Md_next.2.1 279 = .ok (.bipush 10, 2) := by decide +kernel
theorem d_Md_next_281 : decode M_Md_next.2.1 281 = .ok (.aload_n 0, 1) := by decide +kernel
theorem d_Md_next_282 : decode M_Md_next.2.1 282 = .ok (.getfield 179, 3) := by decide +kernel
theorem d_Md_next_285 : decode M_Md_next.2.1 285 = .ok (.imul, 1) := by decide +kernel
theorem d_Md_next_286 : decode M_Md_next.2.1 286 = .ok (.aload_n 0, 1) := by decide +kernel
theorem d_Md_next_287 : decode M_Md_next.2.1 287 = .ok (.getfield 16, 3) := by decide +kernel
theorem d_Md_next_290 : decode M_Md_next.2.1 290 = .ok (.aload_n 0, 1) := by decide +kernel
theorem d_Md_next_291 : decode M_Md_next.2.1 291 = .ok (.getfield 158, 3) := by decide +kernel
theorem d_Md_next_294 : decode M_Md_next.2.1 294 = .ok (.baload, 1) := by decide +kernel
theorem d_Md_next_295 : decode M_Md_next.2.1 295 = .ok (.iadd, 1) := by decide +kernel
theorem d_Md_next_296 : decode M_Md_next.2.1 296 = .ok (.bipush 48, 2) := by decide +kernel
theorem d_Md_next_298 : decode M_Md_next.2.1 298 = .ok (.isub, 1) := by decide +kernel
theorem d_Md_next_299 : decode M_Md_next.2.1 299 = .ok (.putfield 179, 3) := by decide +kernel
theorem d_Md_next_302 : decode M_Md_next.2.1 302 = .ok (.aload_n 0, 1) := by decide +kernel
theorem d_Md_next_303 : decode M_Md_next.2.1 303 = .ok (.dup, 1) := by decide +kernel
theorem d_Md_next_304 : decode M_Md_next.2.1 304 = .ok (.getfield 158, 3) := by decide +kernel
theorem d_Md_next_307 : decode M_Md_next.2.1 307 = .ok (.iconst 1, 1) := by decide +kernel
theorem d_Md_next_308 : decode M_Md_next.2.1 308 = .ok (.iadd, 1) := by decide +kernel
theorem d_Md_next_309 : decode M_Md_next.2.1 309 = .ok (.putfield 158, 3) := by decide +kernel
theorem d_Md_next_312 : decode M_Md_next.2.1 312 = .ok (.goto (-80), 3) := by decide +kernel
theorem d_Md_next_315 : decode M_Md_next.2.1 315 = .ok (.aload_n 0, 1) := by decide +kernel
theorem d_Md_next_316 : decode M_Md_next.2.1 316 = .ok (.dup, 1) := by decide +kernel
theorem d_Md_next_317 : decode M_Md_next.2.1 317 = .ok (.getfield 158, 3) := by decide +kernel
theorem d_Md_next_320 : decode M_Md_next.2.1 320 = .ok (.iconst 1, 1) := by decide +kernel
theorem d_Md_next_321 : decode M_Md_next.2.1 321 = .ok (.iadd, 1) := by decide +kernel
theorem d_Md_next_322 : decode M_Md_next.2.1 322 = .ok (.putfield 158, 3) := by decide +kernel
theorem d_Md_next_325 : decode M_Md_next.2.1 325 = .ok (.aload_n 0, 1) := by decide +kernel
theorem d_Md_next_326 : decode M_Md_next.2.1 326 = .ok (.iload_n 1, 1) := by decide +kernel
theorem d_Md_next_327 : decode M_Md_next.2.1 327 = .ok (.putfield 179, 3) := by decide +kernel
theorem d_Md_next_330 : decode M_Md_next.2.1 330 = .ok (.aload_n 0, 1) := by decide +kernel
theorem d_Md_next_331 : decode M_Md_next.2.1 331 = .ok (.iload_n 1, 1) := by decide +kernel
theorem d_Md_next_332 : decode M_Md_next.2.1 332 = .ok (.bipush 59, 2) := by decide +kernel
theorem d_Md_next_334 : decode M_Md_next.2.1 334 = .ok (.bipush 62, 2) := by decide +kernel
theorem d_Md_next_336 : decode M_Md_next.2.1 336 = .ok (.invokestatic 89, 3) := by decide +kernel
theorem d_Md_next_339 : decode M_Md_next.2.1 339 = .ok (.ifCond .ne 26, 3) := by decide +kernel
theorem d_Md_next_342 : decode M_Md_next.2.1 342 = .ok (.iload_n 1, 1) := by decide +kernel
theorem d_Md_next_343 : decode M_Md_next.2.1 343 = .ok (.bipush 40, 2) := by decide +kernel
theorem d_Md_next_345 : decode M_Md_next.2.1 345 = .ok (.bipush 45, 2) := by decide +kernel
theorem d_Md_next_347 : decode M_Md_next.2.1 347 = .ok (.invokestatic 89, 3) := by decide +kernel
theorem d_Md_next_350 : decode M_Md_next.2.1 350 = .ok (.ifCond .ne 15, 3) := by decide +kernel
theorem d_Md_next_353 : decode M_Md_next.2.1 353 = .ok (.iload_n 1, 1) := by decide +kernel
theorem d_Md_next_354 : decode M_Md_next.2.1 354 = .ok (.bipush 47, 2) := by decide +kernel
theorem d_Md_next_356 : decode M_Md_next.2.1 356 = .ok (.if_icmp .eq 9, 3) := by decide +kernel
theorem d_Md_next_359 : decode M_Md_next.2.1 359 = .ok (.iload_n 1, 1) := by decide +kernel
theorem d_Md_next_360 : decode M_Md_next.2.1 360 = .ok (.bipush 35, 2) := by decide +kernel
theorem d_Md_next_362 : decode M_Md_next.2.1 362 = .ok (.if_icmp .ne 7, 3) := by decide +kernel
theorem d_Md_next_365 : decode M_Md_next.2.1 365 = .ok (.iconst 3, 1) := by decide +kernel
theorem d_Md_next_366 : decode M_Md_next.2.1 366 = .ok (.goto 4, 3) := by decide +kernel
theorem d_Md_next_369 : decode M_Md_next.2.1 369 = .ok (.iconst 4, 1) := by decide +kernel
theorem d_Md_next_370 : decode M_Md_next.2.1 370 = .ok (.putfield 167, 3) := by decide +kernel
theorem d_Md_next_373 : decode M_Md_next.2.1 373 = .ok (.iload_n 1, 1) := by decide +kernel
theorem d_Md_next_374 : decode M_Md_next.2.1 374 = .ok (.bipush 60, 2) := by decide +kernel
theorem d_Md_next_376 : decode M_Md_next.2.1 376 = .ok (.if_icmp .eq 9, 3) := by decide +kernel
theorem d_Md_next_379 : decode M_Md_next.2.1 379 = .ok (.iload_n 1, 1) := by decide +kernel
theorem d_Md_next_380 : decode M_Md_next.2.1 380 = .ok (.bipush 62, 2) := by decide +kernel
theorem d_Md_next_382 : decode M_Md_next.2.1 382 = .ok (.if_icmp .ne 57, 3) := by decide +kernel
theorem d_Md_next_385 : decode M_Md_next.2.1 385 = .ok (.aload_n 0, 1) := by decide +kernel
theorem d_Md_next_386 : decode M_Md_next.2.1 386 = .ok (.getfield 158, 3) := by decide +kernel
theorem d_Md_next_389 : decode M_Md_next.2.1 389 = .ok (.aload_n 0, 1) := by decide +kernel
theorem d_Md_next_390 : decode M_Md_next.2.1 390 = .ok (.getfield 161, 3) := by decide +kernel
theorem d_Md_next_393 : decode M_Md_next.2.1 393 = .ok (.if_icmp .ge 46, 3) := by decide +kernel
theorem d_Md_next_396 : decode M_Md_next.2.1 396 = .ok (.aload_n 0, 1) := by decide +kernel
theorem d_Md_next_397 : decode M_Md_next.2.1 397 = .ok (.getfield 16, 3) := by decide +kernel
theorem d_Md_next_400 : decode M_Md_next.2.1 400 = .ok (.aload_n 0, 1) := by decide +kernel
theorem d_Md_next_401 : decode M_Md_next.2.1 401 = .ok (.getfield 158, 3) := by decide +kernel
theorem d_Md_next_404 : decode M_Md_next.2.1 404 = .ok (.baload, 1) := by decide +kernel
theorem d_Md_next_405 : decode M_Md_next.2.1 405 = .ok (.bipush 61, 2) := by decide +kernel
theorem d_Md_next_407 : decode M_Md_next.2.1 407 = .ok (.if_icmp .ne 32, 3) := by decide +kernel
theorem d_Md_next_410 : decode M_Md_next.2.1 410 = .ok (.aload_n 0, 1) := by decide +kernel
theorem d_Md_next_411 : decode M_Md_next.2.1 411 = .ok (.iload_n 1, 1) := by decide +kernel
theorem d_Md_next_412 : decode M_Md_next.2.1 412 = .ok (.bipush 60, 2) := by decide +kernel
theorem d_Md_next_414 : decode M_Md_next.2.1 414 = .ok (.if_icmp .ne 9, 3) := by decide +kernel
theorem d_Md_next_417 : decode M_Md_next.2.1 417 = .ok (.sipush 300, 3) := by decide +kernel
theorem d_Md_next_420 : decode M_Md_next.2.1 420 = .ok (.goto 6, 3) := by decide +kernel
theorem d_Md_next_423 : decode M_Md_next.2.1 423 = .ok (.sipush 301, 3) := by decide +kernel
theorem d_Md_next_426 : decode M_Md_next.2.1 426 = .ok (.putfield 179, 3) := by decide +kernel
theorem d_Md_next_429 : decode M_Md_next.2.1 429 = .ok (.aload_n 0, 1) := by decide +kernel
theorem d_Md_next_430 : decode M_Md_next.2.1 430 = .ok (.dup, 1) := by decide +kernel
theorem d_Md_next_431 : decode M_Md_next.2.1 431 = .ok (.getfield 158, 3) := by decide +kernel
theorem d_Md_next_434 : decode M_Md_next.2.1 434 = .ok (.iconst 1, 1) := by decide +kernel
theorem d_Md_next_435 : decode M_Md_next.2.1 435 = .ok (.iadd, 1) := by decide +kernel
theorem d_Md_next_436 : decode M_Md_next.2.1 436 = .ok (.putfield 158, 3) := by decide +kernel
theorem d_Md_next_439 : decode M_Md_next.2.1 439 = .ok (.return_, 1) := by decide +kernel
theorem d_Md_isWord_0 : decode M_Md_isWord.2.1 0 = .ok (.aload_n 0, 1) := by decide +kernel
theorem d_Md_isWord_1 : decode M_Md_isWord.2.1 1 = .ok (.getfield 167, 3) := by decide +kernel
theorem d_Md_isWord_4 : decode M_Md_isWord.2.1 4 = .ok (.iconst 1, 1) := by decide +kernel
theorem d_Md_isWord_5 : decode M_Md_isWord.2.1 5 = .ok (.if_icmp .ne 15, 3) := by decide +kernel
theorem d_Md_isWord_8 : decode M_Md_isWord.2.1 8 = .ok (.aload_n 0, 1) := by decide +kernel
theorem d_Md_isWord_9 : decode M_Md_isWord.2.1 9 = .ok (.getfield 179, 3) := by decide +kernel
theorem d_Md_isWord_12 : decode M_Md_isWord.2.1 12 = .ok (.iload_n 1, 1) := by decide +kernel
theorem d_Md_isWord_13 : decode M_Md_isWord.2.1 13 = .ok (.if_icmp .ne 7, 3) := by decide +kernel
theorem d_Md_isWord_16 : decode M_Md_isWord.2.1 16 = .ok (.iconst 1, 1) := by decide +kernel
theorem d_Md_isWord_17 : decode M_Md_isWord.2.1 17 = .ok (.goto 4, 3) := by decide +kernel
theorem d_Md_isWord_20 : decode M_Md_isWord.2.1 20 = .ok (.iconst 0, 1) := by decide +kernel
theorem d_Md_isWord_21 : decode M_Md_isWord.2.1 21 = .ok (.ireturn, 1) := by decide +kernel
theorem d_Md_opensFrame_0 : decode M_Md_opensFrame.2.1 0 = .ok (.aload_n 0, 1) := by decide +kernel
theorem d_Md_opensFrame_1 : decode M_Md_opensFrame.2.1 1 = .ok (.getfield 42, 3) := by decide +kernel
theorem d_Md_opensFrame_4 : decode M_Md_opensFrame.2.1 4 = .ok (.aload_n 0, 1) := by decide +kernel
theorem d_Md_opensFrame_5 : decode M_Md_opensFrame.2.1 5 = .ok (.getfield 192, 3) := by decide +kernel
theorem d_Md_opensFrame_8 : decode M_Md_opensFrame.2.1 8 = .ok (.iload_n 1, 1) := by decide +kernel
theorem d_Md_opensFrame_9 : decode M_Md_opensFrame.2.1 9 = .ok (.iastore, 1) := by decide +kernel
theorem d_Md_opensFrame_10 : decode M_Md_opensFrame.2.1 10 = .ok (.aload_n 0, 1) := by decide +kernel
theorem d_Md_opensFrame_11 : decode M_Md_opensFrame.2.1 11 = .ok (.dup, 1) := by decide +kernel
theorem d_Md_opensFrame_12 : decode M_Md_opensFrame.2.1 12 = .ok (.getfield 192, 3) := by decide +kernel
theorem d_Md_opensFrame_15 : decode M_Md_opensFrame.2.1 15 = .ok (.iconst 1, 1) := by decide +kernel
theorem d_Md_opensFrame_16 : decode M_Md_opensFrame.2.1 16 = .ok (.iadd, 1) := by decide +kernel
theorem d_Md_opensFrame_17 : decode M_Md_opensFrame.2.1 17 = .ok (.putfield 192, 3) := by decide +kernel
theorem d_Md_opensFrame_20 : decode M_Md_opensFrame.2.1 20 = .ok (.return_, 1) := by decide +kernel
theorem d_Md_errs_0 : decode M_Md_errs.2.1 0 = .ok (.aload_n 0, 1) := by decide +kernel
theorem d_Md_errs_1 : decode M_Md_errs.2.1 1 = .ok (.getfield 183, 3) := by decide +kernel
theorem d_Md_errs_4 : decode M_Md_errs.2.1 4 = .ok (.ifCond .ne 16, 3) := by decide +kernel
theorem d_Md_errs_7 : decode M_Md_errs.2.1 7 = .ok (.aload_n 0, 1) := by decide +kernel
theorem d_Md_errs_8 : decode M_Md_errs.2.1 8 = .ok (.iload_n 1, 1) := by decide +kernel
theorem d_Md_errs_9 : decode M_Md_errs.2.1 9 = .ok (.putfield 183, 3) := by decide +kernel
theorem d_Md_errs_12 : decode M_Md_errs.2.1 12 = .ok (.aload_n 0, 1) := by decide +kernel
theorem d_Md_errs_13 : decode M_Md_errs.2.1 13 = .ok (.aload_n 0, 1) := by decide +kernel
theorem d_Md_errs_14 : decode M_Md_errs.2.1 14 = .ok (.getfield 164, 3) := by decide +kernel
theorem d_Md_errs_17 : decode M_Md_errs.2.1 17 = .ok (.putfield 186, 3) := by decide +kernel
theorem d_Md_errs_20 : decode M_Md_errs.2.1 20 = .ok (.return_, 1) := by decide +kernel
theorem d_Md_opensSign_0 : decode M_Md_opensSign.2.1 0 = .ok (.aload_n 0, 1) := by decide +kernel
theorem d_Md_opensSign_1 : decode M_Md_opensSign.2.1 1 = .ok (.getfield 195, 3) := by decide +kernel
theorem d_Md_opensSign_4 : decode M_Md_opensSign.2.1 4 = .ok (.bipush 8, 2) := by decide +kernel
theorem d_Md_opensSign_6 : decode M_Md_opensSign.2.1 6 = .ok (.if_icmp .ne 10, 3) := by decide +kernel
theorem d_Md_opensSign_9 : decode M_Md_opensSign.2.1 9 = .ok (.aload_n 0, 1) := by decide +kernel
theorem d_Md_opensSign_10 : decode M_Md_opensSign.2.1 10 = .ok (.iconst 3, 1) := by decide +kernel
theorem d_Md_opensSign_11 : decode M_Md_opensSign.2.1 11 = .ok (.invokevirtual 198, 3) := by decide +kernel
theorem d_Md_opensSign_14 : decode M_Md_opensSign.2.1 14 = .ok (.iconst 0, 1) := by decide +kernel
theorem d_Md_opensSign_15 : decode M_Md_opensSign.2.1 15 = .ok (.ireturn, 1) := by decide +kernel
theorem d_Md_opensSign_16 : decode M_Md_opensSign.2.1 16 = .ok (.aload_n 0, 1) := by decide +kernel
theorem d_Md_opensSign_17 : decode M_Md_opensSign.2.1 17 = .ok (.dup, 1) := by decide +kernel
theorem d_Md_opensSign_18 : decode M_Md_opensSign.2.1 18 = .ok (.getfield 195, 3) := by decide +kernel
theorem d_Md_opensSign_21 : decode M_Md_opensSign.2.1 21 = .ok (.iconst 1, 1) := by decide +kernel
theorem d_Md_opensSign_22 : decode M_Md_opensSign.2.1 22 = .ok (.iadd, 1) := by decide +kernel
theorem d_Md_opensSign_23 : decode M_Md_opensSign.2.1 23 = .ok (.putfield 195, 3) := by decide +kernel
theorem d_Md_opensSign_26 : decode M_Md_opensSign.2.1 26 = .ok (.aload_n 0, 1) := by decide +kernel
theorem d_Md_opensSign_27 : decode M_Md_opensSign.2.1 27 = .ok (.iload_n 1, 1) := by decide +kernel
theorem d_Md_opensSign_28 : decode M_Md_opensSign.2.1 28 = .ok (.invokevirtual 201, 3) := by decide +kernel
theorem d_Md_opensSign_31 : decode M_Md_opensSign.2.1 31 = .ok (.aload_n 0, 1) := by decide +kernel
theorem d_Md_opensSign_32 : decode M_Md_opensSign.2.1 32 = .ok (.invokevirtual 204, 3) := by decide +kernel
theorem d_Md_opensSign_35 : decode M_Md_opensSign.2.1 35 = .ok (.iconst 1, 1) := by decide +kernel
theorem d_Md_opensSign_36 : decode M_Md_opensSign.2.1 36 = .ok (.ireturn, 1) := by decide +kernel
theorem d_Md_asks_0 : decode M_Md_asks.2.1 0 = .ok (.aload_n 0, 1) := by decide +kernel
theorem d_Md_asks_1 : decode M_Md_asks.2.1 1 = .ok (.bipush 8, 2) := by decide +kernel
theorem d_Md_asks_3 : decode M_Md_asks.2.1 3 = .ok (.invokevirtual 221, 3) := by decide +kernel
theorem d_Md_asks_6 : decode M_Md_asks.2.1 6 = .ok (.ifCond .eq 12, 3) := by decide +kernel
theorem d_Md_asks_9 : decode M_Md_asks.2.1 9 = .ok (.aload_n 0, 1) := by decide +kernel
theorem d_Md_asks_10 : decode M_Md_asks.2.1 10 = .ok (.iconst 3, 1) := by decide +kernel
theorem d_Md_asks_11 : decode M_Md_asks.2.1 11 = .ok (.invokevirtual 224, 3) := by decide +kernel
theorem d_Md_asks_14 : decode M_Md_asks.2.1 14 = .ok (.istore_n 1, 1) := by decide +kernel
theorem d_Md_asks_15 : decode M_Md_asks.2.1 15 = .ok (.goto 13, 3) := by decide +kernel
theorem d_Md_asks_18 : decode M_Md_asks.2.1 18 = .ok (.aload_n 0, 1) := by decide +kernel
theorem d_Md_asks_19 : decode M_Md_asks.2.1 19 = .ok (.iconst 4, 1) := by decide +kernel
theorem d_Md_asks_20 : decode M_Md_asks.2.1 20 = .ok (.invokevirtual 201, 3) := by decide +kernel
theorem d_Md_asks_23 : decode M_Md_asks.2.1 23 = .ok (.aload_n 0, 1) := by decide +kernel
theorem d_Md_asks_24 : decode M_Md_asks.2.1 24 = .ok (.iconst 1, 1) := by decide +kernel
theorem d_Md_asks_25 : decode M_Md_asks.2.1 25 = .ok (.putfield 227, 3) := by decide +kernel
theorem d_Md_asks_28 : decode M_Md_asks.2.1 28 = .ok (.return_, 1) := by decide +kernel
theorem d_Md_mayOf_0 : decode M_Md_mayOf.2.1 0 = .ok (.iload_n 0, 1) := by decide +kernel
theorem d_Md_mayOf_1 : decode M_Md_mayOf.2.1 1 = .ok (.tableswitch 54 0 4 #[35, 38, 42, 46, 50], 35) := by decide +kernel
theorem d_Md_mayOf_36 : decode M_Md_mayOf.2.1 36 = .ok (.bipush 31, 2) := by decide +kernel
theorem d_Md_mayOf_38 : decode M_Md_mayOf.2.1 38 = .ok (.ireturn, 1) := by decide +kernel
theorem d_Md_mayOf_39 : decode M_Md_mayOf.2.1 39 = .ok (.sipush 243, 3) := by decide +kernel
theorem d_Md_mayOf_42 : decode M_Md_mayOf.2.1 42 = .ok (.ireturn, 1) := by decide +kernel
theorem d_Md_mayOf_43 : decode M_Md_mayOf.2.1 43 = .ok (.sipush 1011, 3) := by decide +kernel
theorem d_Md_mayOf_46 : decode M_Md_mayOf.2.1 46 = .ok (.ireturn, 1) := by decide +kernel
theorem d_Md_mayOf_47 : decode M_Md_mayOf.2.1 47 = .ok (.sipush 483, 3) := by decide +kernel
theorem d_Md_mayOf_50 : decode M_Md_mayOf.2.1 50 = .ok (.ireturn, 1) := by decide +kernel
theorem d_Md_mayOf_51 : decode M_Md_mayOf.2.1 51 = .ok (.sipush 1267, 3) := by decide +kernel
theorem d_Md_mayOf_54 : decode M_Md_mayOf.2.1 54 = .ok (.ireturn, 1) := by decide +kernel
theorem d_Md_mayOf_55 : decode M_Md_mayOf.2.1 55 = .ok (.sipush 6147, 3) := by decide +kernel
theorem d_Md_mayOf_58 : decode M_Md_mayOf.2.1 58 = .ok (.ireturn, 1) := by decide +kernel
theorem d_Md_emits_0 : decode M_Md_emits.2.1 0 = .ok (.aload_n 0, 1) := by decide +kernel
theorem d_Md_emits_1 : decode M_Md_emits.2.1 1 = .ok (.getfield 60, 3) := by decide +kernel
theorem d_Md_emits_4 : decode M_Md_emits.2.1 4 = .ok (.aload_n 0, 1) := by decide +kernel
theorem d_Md_emits_5 : decode M_Md_emits.2.1 5 = .ok (.getfield 189, 3) := by decide +kernel
theorem d_Md_emits_8 : decode M_Md_emits.2.1 8 = .ok (.iload_n 1, 1) := by decide +kernel
theorem d_Md_emits_9 : decode M_Md_emits.2.1 9 = .ok (.iastore, 1) := by decide +kernel
theorem d_Md_emits_10 : decode M_Md_emits.2.1 10 = .ok (.aload_n 0, 1) := by decide +kernel
theorem d_Md_emits_11 : decode M_Md_emits.2.1 11 = .ok (.getfield 63, 3) := by decide +kernel
theorem d_Md_emits_14 : decode M_Md_emits.2.1 14 = .ok (.aload_n 0, 1) := by decide +kernel
theorem d_Md_emits_15 : decode M_Md_emits.2.1 15 = .ok (.getfield 189, 3) := by decide +kernel
theorem d_Md_emits_18 : decode M_Md_emits.2.1 18 = .ok (.iload_n 2, 1) := by decide +kernel
theorem d_Md_emits_19 : decode M_Md_emits.2.1 19 = .ok (.iastore, 1) := by decide +kernel
theorem d_Md_emits_20 : decode M_Md_emits.2.1 20 = .ok (.aload_n 0, 1) := by decide +kernel
theorem d_Md_emits_21 : decode M_Md_emits.2.1 21 = .ok (.dup, 1) := by decide +kernel
theorem d_Md_emits_22 : decode M_Md_emits.2.1 22 = .ok (.getfield 189, 3) := by decide +kernel
theorem d_Md_emits_25 : decode M_Md_emits.2.1 25 = .ok (.iconst 1, 1) := by decide +kernel
theorem d_Md_emits_26 : decode M_Md_emits.2.1 26 = .ok (.iadd, 1) := by decide +kernel
theorem d_Md_emits_27 : decode M_Md_emits.2.1 27 = .ok (.putfield 189, 3) := by decide +kernel
theorem d_Md_emits_30 : decode M_Md_emits.2.1 30 = .ok (.return_, 1) := by decide +kernel
theorem d_Md_top_0 : decode M_Md_top.2.1 0 = .ok (.aload_n 0, 1) := by decide +kernel
theorem d_Md_top_1 : decode M_Md_top.2.1 1 = .ok (.getfield 42, 3) := by decide +kernel
theorem d_Md_top_4 : decode M_Md_top.2.1 4 = .ok (.aload_n 0, 1) := by decide +kernel
theorem d_Md_top_5 : decode M_Md_top.2.1 5 = .ok (.getfield 192, 3) := by decide +kernel
theorem d_Md_top_8 : decode M_Md_top.2.1 8 = .ok (.iconst 1, 1) := by decide +kernel
theorem d_Md_top_9 : decode M_Md_top.2.1 9 = .ok (.isub, 1) := by decide +kernel
theorem d_Md_top_10 : decode M_Md_top.2.1 10 = .ok (.iaload, 1) := by decide +kernel
theorem d_Md_top_11 : decode M_Md_top.2.1 11 = .ok (.ireturn, 1) := by decide +kernel
theorem d_Md_oneIsOver_0 : decode M_Md_oneIsOver.2.1 0 = .ok (.aload_n 0, 1) := by decide +kernel
theorem d_Md_oneIsOver_1 : decode M_Md_oneIsOver.2.1 1 = .ok (.invokevirtual 242, 3) := by decide +kernel
theorem d_Md_oneIsOver_4 : decode M_Md_oneIsOver.2.1 4 = .ok (.bipush 7, 2) := by decide +kernel
theorem d_Md_oneIsOver_6 : decode M_Md_oneIsOver.2.1 6 = .ok (.if_icmp .ne 34, 3) := by decide +kernel
theorem d_Md_oneIsOver_9 : decode M_Md_oneIsOver.2.1 9 = .ok (.aload_n 0, 1) := by decide +kernel
theorem d_Md_oneIsOver_10 : decode M_Md_oneIsOver.2.1 10 = .ok (.dup, 1) := by decide +kernel
theorem d_Md_oneIsOver_11 : decode M_Md_oneIsOver.2.1 11 = .ok (.getfield 192, 3) := by decide +kernel
theorem d_Md_oneIsOver_14 : decode M_Md_oneIsOver.2.1 14 = .ok (.iconst 1, 1) := by decide +kernel
theorem d_Md_oneIsOver_15 : decode M_Md_oneIsOver.2.1 15 = .ok (.isub, 1) := by decide +kernel
theorem d_Md_oneIsOver_16 : decode M_Md_oneIsOver.2.1 16 = .ok (.putfield 192, 3) := by decide +kernel
theorem d_Md_oneIsOver_19 : decode M_Md_oneIsOver.2.1 19 = .ok (.aload_n 0, 1) := by decide +kernel
theorem d_Md_oneIsOver_20 : decode M_Md_oneIsOver.2.1 20 = .ok (.dup, 1) := by decide +kernel
theorem d_Md_oneIsOver_21 : decode M_Md_oneIsOver.2.1 21 = .ok (.getfield 195, 3) := by decide +kernel
theorem d_Md_oneIsOver_24 : decode M_Md_oneIsOver.2.1 24 = .ok (.iconst 1, 1) := by decide +kernel
theorem d_Md_oneIsOver_25 : decode M_Md_oneIsOver.2.1 25 = .ok (.isub, 1) := by decide +kernel
theorem d_Md_oneIsOver_26 : decode M_Md_oneIsOver.2.1 26 = .ok (.putfield 195, 3) := by decide +kernel
theorem d_Md_oneIsOver_29 : decode M_Md_oneIsOver.2.1 29 = .ok (.aload_n 0, 1) := by decide +kernel
theorem d_Md_oneIsOver_30 : decode M_Md_oneIsOver.2.1 30 = .ok (.sipush 402, 3) := by decide +kernel
theorem d_Md_oneIsOver_33 : decode M_Md_oneIsOver.2.1 33 = .ok (.iconst 0, 1) := by decide +kernel
theorem d_Md_oneIsOver_34 : decode M_Md_oneIsOver.2.1 34 = .ok (.invokevirtual 214, 3) := by decide +kernel
theorem d_Md_oneIsOver_37 : decode M_Md_oneIsOver.2.1 37 = .ok (.goto (-37), 3) := by decide +kernel
theorem d_Md_oneIsOver_40 : decode M_Md_oneIsOver.2.1 40 = .ok (.aload_n 0, 1) := by decide +kernel
theorem d_Md_oneIsOver_41 : decode M_Md_oneIsOver.2.1 41 = .ok (.iconst 2, 1) := by decide +kernel
theorem d_Md_oneIsOver_42 : decode M_Md_oneIsOver.2.1 42 = .ok (.putfield 227, 3) := by decide +kernel
theorem d_Md_oneIsOver_45 : decode M_Md_oneIsOver.2.1 45 = .ok (.return_, 1) := by decide +kernel
theorem d_Md_isSign_0 : decode M_Md_isSign.2.1 0 = .ok (.aload_n 0, 1) := by decide +kernel
theorem d_Md_isSign_1 : decode M_Md_isSign.2.1 1 = .ok (.getfield 167, 3) := by decide +kernel
theorem d_Md_isSign_4 : decode M_Md_isSign.2.1 4 = .ok (.iconst 3, 1) := by decide +kernel
theorem d_Md_isSign_5 : decode M_Md_isSign.2.1 5 = .ok (.if_icmp .ne 15, 3) := by decide +kernel
theorem d_Md_isSign_8 : decode M_Md_isSign.2.1 8 = .ok (.aload_n 0, 1) := by decide +kernel
theorem d_Md_isSign_9 : decode M_Md_isSign.2.1 9 = .ok (.getfield 179, 3) := by decide +kernel
theorem d_Md_isSign_12 : decode M_Md_isSign.2.1 12 = .ok (.iload_n 1, 1) := by decide +kernel
theorem d_Md_isSign_13 : decode M_Md_isSign.2.1 13 = .ok (.if_icmp .ne 7, 3) := by decide +kernel
theorem d_Md_isSign_16 : decode M_Md_isSign.2.1 16 = .ok (.iconst 1, 1) := by decide +kernel
theorem d_Md_isSign_17 : decode M_Md_isSign.2.1 17 = .ok (.goto 4, 3) := by decide +kernel
theorem d_Md_isSign_20 : decode M_Md_isSign.2.1 20 = .ok (.iconst 0, 1) := by decide +kernel
theorem d_Md_isSign_21 : decode M_Md_isSign.2.1 21 = .ok (.ireturn, 1) := by decide +kernel
theorem d_Md_begins_0 : decode M_Md_begins.2.1 0 = .ok (.aload_n 0, 1) := by decide +kernel
theorem d_Md_begins_1 : decode M_Md_begins.2.1 1 = .ok (.getfield 167, 3) := by decide +kernel
theorem d_Md_begins_4 : decode M_Md_begins.2.1 4 = .ok (.iconst 2, 1) := by decide +kernel
theorem d_Md_begins_5 : decode M_Md_begins.2.1 5 = .ok (.if_icmp .ne 41, 3) := by decide +kernel
theorem d_Md_begins_8 : decode M_Md_begins.2.1 8 = .ok (.aload_n 0, 1) := by decide +kernel
theorem d_Md_begins_9 : decode M_Md_begins.2.1 9 = .ok (.getfield 179, 3) := by decide +kernel
theorem d_Md_begins_12 : decode M_Md_begins.2.1 12 = .ok (.sipush 9999, 3) := by decide +kernel
theorem d_Md_begins_15 : decode M_Md_begins.2.1 15 = .ok (.if_icmp .le 9, 3) := by decide +kernel
theorem d_Md_begins_18 : decode M_Md_begins.2.1 18 = .ok (.aload_n 0, 1) := by decide +kernel
theorem d_Md_begins_19 : decode M_Md_begins.2.1 19 = .ok (.iconst 2, 1) := by decide +kernel
theorem d_Md_begins_20 : decode M_Md_begins.2.1 20 = .ok (.invokevirtual 198, 3) := by decide +kernel
theorem d_Md_begins_23 : decode M_Md_begins.2.1 23 = .ok (.return_, 1) := by decide +kernel
theorem d_Md_begins_24 : decode M_Md_begins.2.1 24 = .ok (.aload_n 0, 1) := by decide +kernel
theorem d_Md_begins_25 : decode M_Md_begins.2.1 25 = .ok (.sipush 400, 3) := by decide +kernel
theorem d_Md_begins_28 : decode M_Md_begins.2.1 28 = .ok (.aload_n 0, 1) := by decide +kernel
theorem d_Md_begins_29 : decode M_Md_begins.2.1 29 = .ok (.getfield 179, 3) := by decide +kernel
theorem d_Md_begins_32 : decode M_Md_begins.2.1 32 = .ok (.invokevirtual 214, 3) := by decide +kernel
theorem d_Md_begins_35 : decode M_Md_begins.2.1 35 = .ok (.aload_n 0, 1) := by decide +kernel
theorem d_Md_begins_36 : decode M_Md_begins.2.1 36 = .ok (.invokevirtual 204, 3) := by decide +kernel
theorem d_Md_begins_39 : decode M_Md_begins.2.1 39 = .ok (.aload_n 0, 1) := by decide +kernel
theorem d_Md_begins_40 : decode M_Md_begins.2.1 40 = .ok (.invokevirtual 230, 3) := by decide +kernel
theorem d_Md_begins_43 : decode M_Md_begins.2.1 43 = .ok (.goto 112, 3) := by decide +kernel
theorem d_Md_begins_46 : decode M_Md_begins.2.1 46 = .ok (.aload_n 0, 1) := by decide +kernel
theorem d_Md_begins_47 : decode M_Md_begins.2.1 47 = .ok (.getfield 167, 3) := by decide +kernel
theorem d_Md_begins_50 : decode M_Md_begins.2.1 50 = .ok (.iconst 1, 1) := by decide +kernel
theorem d_Md_begins_51 : decode M_Md_begins.2.1 51 = .ok (.if_icmp .ne 61, 3) := by decide +kernel
theorem d_Md_begins_54 : decode M_Md_begins.2.1 54 = .ok (.aload_n 0, 1) := by decide +kernel
theorem d_Md_begins_55 : decode M_Md_begins.2.1 55 = .ok (.getfield 179, 3) := by decide +kernel
theorem d_Md_begins_58 : decode M_Md_begins.2.1 58 = .ok (.bipush 8, 2) := by decide +kernel
theorem d_Md_begins_60 : decode M_Md_begins.2.1 60 = .ok (.if_icmp .le 52, 3) := by decide +kernel
theorem d_Md_begins_63 : decode M_Md_begins.2.1 63 = .ok (.aload_n 0, 1) := by decide +kernel
theorem d_Md_begins_64 : decode M_Md_begins.2.1 64 = .ok (.getfield 179, 3) := by decide +kernel
theorem d_Md_begins_67 : decode M_Md_begins.2.1 67 = .ok (.bipush 8, 2) := by decide +kernel
theorem d_Md_begins_69 : decode M_Md_begins.2.1 69 = .ok (.isub, 1) := by decide +kernel
theorem d_Md_begins_70 : decode M_Md_begins.2.1 70 = .ok (.iconst 1, 1) := by decide +kernel
theorem d_Md_begins_71 : decode M_Md_begins.2.1 71 = .ok (.isub, 1) := by decide +kernel
theorem d_Md_begins_72 : decode M_Md_begins.2.1 72 = .ok (.istore_n 1, 1) := by decide +kernel
theorem d_Md_begins_73 : decode M_Md_begins.2.1 73 = .ok (.aload_n 0, 1) := by decide +kernel
theorem d_Md_begins_74 : decode M_Md_begins.2.1 74 = .ok (.getfield 233, 3) := by decide +kernel
theorem d_Md_begins_77 : decode M_Md_begins.2.1 77 = .ok (.invokestatic 236, 3) := by decide +kernel
theorem d_Md_begins_80 : decode M_Md_begins.2.1 80 = .ok (.iload_n 1, 1) := by decide +kernel
theorem d_Md_begins_81 : decode M_Md_begins.2.1 81 = .ok (.ishr, 1) := by decide +kernel
theorem d_Md_begins_82 : decode M_Md_begins.2.1 82 = .ok (.iconst 1, 1) := by decide +kernel
theorem d_Md_begins_83 : decode M_Md_begins.2.1 83 = .ok (.iand, 1) := by decide +kernel
theorem d_Md_begins_84 : decode M_Md_begins.2.1 84 = .ok (.ifCond .ne 9, 3) := by decide +kernel
theorem d_Md_begins_87 : decode M_Md_begins.2.1 87 = .ok (.aload_n 0, 1) := by decide +kernel
theorem d_Md_begins_88 : decode M_Md_begins.2.1 88 = .ok (.iconst 5, 1) := by decide +kernel
theorem d_Md_begins_89 : decode M_Md_begins.2.1 89 = .ok (.invokevirtual 198, 3) := by decide +kernel
theorem d_Md_begins_92 : decode M_Md_begins.2.1 92 = .ok (.return_, 1) := by decide +kernel
theorem d_Md_begins_93 : decode M_Md_begins.2.1 93 = .ok (.aload_n 0, 1) := by decide +kernel
theorem d_Md_begins_94 : decode M_Md_begins.2.1 94 = .ok (.sipush 401, 3) := by decide +kernel
theorem d_Md_begins_97 : decode M_Md_begins.2.1 97 = .ok (.iload_n 1, 1) := by decide +kernel
theorem d_Md_begins_98 : decode M_Md_begins.2.1 98 = .ok (.invokevirtual 214, 3) := by decide +kernel
theorem d_Md_begins_101 : decode M_Md_begins.2.1 101 = .ok (.aload_n 0, 1) := by decide +kernel
theorem d_Md_begins_102 : decode M_Md_begins.2.1 102 = .ok (.invokevirtual 204, 3) := by decide +kernel
theorem d_Md_begins_105 : decode M_Md_begins.2.1 105 = .ok (.aload_n 0, 1) := by decide +kernel
theorem d_Md_begins_106 : decode M_Md_begins.2.1 106 = .ok (.invokevirtual 230, 3) := by decide +kernel
theorem d_Md_begins_109 : decode M_Md_begins.2.1 109 = .ok (.goto 46, 3) := by decide +kernel
theorem d_Md_begins_112 : decode M_Md_begins.2.1 112 = .ok (.aload_n 0, 1) := by decide +kernel
theorem d_Md_begins_113 : decode M_Md_begins.2.1 113 = .ok (.bipush 40, 2) := by decide +kernel
theorem d_Md_begins_115 : decode M_Md_begins.2.1 115 = .ok (.invokevirtual 239, 3) := by decide +kernel
theorem d_Md_begins_118 : decode M_Md_begins.2.1 118 = .ok (.ifCond .eq 13, 3) := by decide +kernel
theorem d_Md_begins_121 : decode M_Md_begins.2.1 121 = .ok (.aload_n 0, 1) := by decide +kernel
theorem d_Md_begins_122 : decode M_Md_begins.2.1 122 = .ok (.bipush 6, 2) := by decide +kernel
theorem d_Md_begins_124 : decode M_Md_begins.2.1 124 = .ok (.invokevirtual 224, 3) := by decide +kernel
theorem d_Md_begins_127 : decode M_Md_begins.2.1 127 = .ok (.istore_n 1, 1) := by decide +kernel
theorem d_Md_begins_128 : decode M_Md_begins.2.1 128 = .ok (.goto 27, 3) := by decide +kernel
theorem d_Md_begins_131 : decode M_Md_begins.2.1 131 = .ok (.aload_n 0, 1) := by decide +kernel
theorem d_Md_begins_132 : decode M_Md_begins.2.1 132 = .ok (.bipush 45, 2) := by decide +kernel
theorem d_Md_begins_134 : decode M_Md_begins.2.1 134 = .ok (.invokevirtual 239, 3) := by decide +kernel
theorem d_Md_begins_137 : decode M_Md_begins.2.1 137 = .ok (.ifCond .eq 13, 3) := by decide +kernel
theorem d_Md_begins_140 : decode M_Md_begins.2.1 140 = .ok (.aload_n 0, 1) := by decide +kernel
theorem d_Md_begins_141 : decode M_Md_begins.2.1 141 = .ok (.bipush 7, 2) := by decide +kernel
theorem d_Md_begins_143 : decode M_Md_begins.2.1 143 = .ok (.invokevirtual 224, 3) := by decide +kernel
theorem d_Md_begins_146 : decode M_Md_begins.2.1 146 = .ok (.istore_n 1, 1) := by decide +kernel
theorem d_Md_begins_147 : decode M_Md_begins.2.1 147 = .ok (.goto 8, 3) := by decide +kernel
theorem d_Md_begins_150 : decode M_Md_begins.2.1 150 = .ok (.aload_n 0, 1) := by decide +kernel
theorem d_Md_begins_151 : decode M_Md_begins.2.1 151 = .ok (.iconst 1, 1) := by decide +kernel
theorem d_Md_begins_152 : decode M_Md_begins.2.1 152 = .ok (.invokevirtual 198, 3) := by decide +kernel
theorem d_Md_begins_155 : decode M_Md_begins.2.1 155 = .ok (.return_, 1) := by decide +kernel
-- Md_in
def f_Md_in (a0 : Int32) (a1 : Int32) (a2 : Int32) : Int32 := (if a0 < a1 then 0 else (if a2 < a0 then 0 else 1))
theorem t_Md_in (a0 : Int32) (a1 : Int32) (a2 : Int32) (V : xV) (L : xL) (res : Int32) (h : f_Md_in a0 a1 a2 = res) : xRuns (1) M_Md_in [.int a0, .int a1, .int a2] (SH, V, L) (fun o h' => o = some (.int res) ∧ h' = (SH, V, L)) := by
  refine xRuns_of (by decide) (Nat.le_of_ble_eq_true rfl) ?_
  unfold f_Md_in at h
  show X M_Md_in (xRm (1) M_Md_in) (xZ M_Md_in (fun o h' => o = some (.int res) ∧ h' = (SH, V, L))) SH V L 0 0 0 [(0, .int a0), (1, .int a1), (2, .int a2)] []
  refine x_iload_n 0 d_Md_in_0 rfl rfl ?_
  refine x_iload_n 1 d_Md_in_1 rfl rfl ?_
  refine x_icmp_lt 14 d_Md_in_2 (by decide) (fun c1 => ?_) (fun c1 => ?_)
  · replace h := xpos c1 h
    refine x_iconst 0 d_Md_in_14 (by decide) ?_
    obtain rfl := h
    exact x_zreturn rfl rfl d_Md_in_15 (Nat.le_refl _) (Nat.le_refl _) ⟨rfl, rfl⟩
  · replace h := xneg c1 h
    refine x_iload_n 0 d_Md_in_5 rfl rfl ?_
    refine x_iload_n 2 d_Md_in_6 rfl rfl ?_
    refine x_icmp_gt 14 d_Md_in_7 (by decide) (fun c2 => ?_) (fun c2 => ?_)
    · replace h := xpos c2 h
      refine x_iconst 0 d_Md_in_14 (by decide) ?_
      obtain rfl := h
      exact x_zreturn rfl rfl d_Md_in_15 (Nat.le_refl _) (Nat.le_refl _) ⟨rfl, rfl⟩
    · replace h := xneg c2 h
      refine x_iconst 1 d_Md_in_10 (by decide) ?_
      refine x_goto 15 d_Md_in_11 (by decide) ?_
      obtain rfl := h
      exact x_zreturn rfl rfl d_Md_in_15 (Nat.le_refl _) (Nat.le_refl _) ⟨rfl, rfl⟩
theorem z_Md_in (a0 : Int32) (a1 : Int32) (a2 : Int32) : f_Md_in a0 a1 a2 = 0 ∨ f_Md_in a0 a1 a2 = 1 := by unfold f_Md_in; first | (repeat' split) <;> simp | exact z_Md_in _ _ _
-- Md_isProvince
def f_Md_isProvince (a0 : Int32) : Int32 := (f_Md_in a0 0 3)
theorem t_Md_isProvince (a0 : Int32) (V : xV) (L : xL) (res : Int32) (h : f_Md_isProvince a0 = res) : xRuns (2) M_Md_isProvince [.int a0] (SH, V, L) (fun o h' => o = some (.int res) ∧ h' = (SH, V, L)) := by
  refine xRuns_of (by decide) (Nat.le_of_ble_eq_true rfl) ?_
  unfold f_Md_isProvince at h
  show X M_Md_isProvince (xRm (2) M_Md_isProvince) (xZ M_Md_isProvince (fun o h' => o = some (.int res) ∧ h' = (SH, V, L))) SH V L 0 0 0 [(0, .int a0)] []
  refine x_iload_n 0 d_Md_isProvince_0 rfl rfl ?_
  refine x_iconst 0 d_Md_isProvince_1 (by decide) ?_
  refine x_iconst 3 d_Md_isProvince_2 (by decide) ?_
  refine x_callS0 e_Md_89 (t_Md_in a0 0 3 V L _ rfl) rfl rfl rfl (Nat.le_of_ble_eq_true rfl) (xfit_of (by omega) (Nat.le_of_ble_eq_true rfl)) (Nat.zero_le _) (Nat.zero_le _) d_Md_isProvince_3 ?_
  obtain rfl := h
  exact x_zreturn rfl (xnz (z_Md_in a0 0 3)) d_Md_isProvince_6 (Nat.le_refl _) (Nat.le_refl _) ⟨rfl, rfl⟩
-- Md_folk
def f_Md_folk (a1 : Int32) (a2 : Int32) (a3 : Int32) (V : xV) : Option (Int32 × xV) := (if (f_Md_isProvince a1) = 0 then some ((-1), V) else (if (f_Md_in a2 0 9) = 0 then some ((-1), V) else (if (f_Md_in a3 0 9) = 0 then some ((-1), V) else (if ¬ (V 66 0) = 12 then (if xI (170 + (3 * (V 66 0))) 270 = true then (if xI ((170 + (3 * (V 66 0))) + 1) 270 = true then (if xI ((170 + (3 * (V 66 0))) + 2) 270 = true then some (((x2 (x2 (x2 (x2 V 66 ((170 + (3 * (V 66 0))).toNatClampNeg) a1) 66 (((170 + (3 * (V 66 0))) + 1).toNatClampNeg) a2) 66 (((170 + (3 * (V 66 0))) + 2).toNatClampNeg) a3) 66 0 (((x2 (x2 (x2 V 66 ((170 + (3 * (V 66 0))).toNatClampNeg) a1) 66 (((170 + (3 * (V 66 0))) + 1).toNatClampNeg) a2) 66 (((170 + (3 * (V 66 0))) + 2).toNatClampNeg) a3) 66 0) + 1)) 66 0) - 1, x2 (x2 (x2 (x2 V 66 ((170 + (3 * (V 66 0))).toNatClampNeg) a1) 66 (((170 + (3 * (V 66 0))) + 1).toNatClampNeg) a2) 66 (((170 + (3 * (V 66 0))) + 2).toNatClampNeg) a3) 66 0 (((x2 (x2 (x2 V 66 ((170 + (3 * (V 66 0))).toNatClampNeg) a1) 66 (((170 + (3 * (V 66 0))) + 1).toNatClampNeg) a2) 66 (((170 + (3 * (V 66 0))) + 2).toNatClampNeg) a3) 66 0) + 1)) else none) else none) else none) else some ((-1), V)))))
theorem t_Md_folk (a1 : Int32) (a2 : Int32) (a3 : Int32) (V : xV) (L : xL) (res : Int32 × xV) (h : f_Md_folk a1 a2 a3 V = some res) : xRuns (3) M_Md_folk [.ref 65, .int a1, .int a2, .int a3] (SH, V, L) (fun o h' => o = some (.int res.1) ∧ h' = (SH, res.2, L)) := by
  refine xRuns_of (by decide) (Nat.le_of_ble_eq_true rfl) ?_
  unfold f_Md_folk at h
  show X M_Md_folk (xRm (3) M_Md_folk) (xZ M_Md_folk (fun o h' => o = some (.int res.1) ∧ h' = (SH, res.2, L))) SH V L 0 0 0 [(0, .ref 65), (1, .int a1), (2, .int a2), (3, .int a3)] []
  refine x_iload_n 1 d_Md_folk_0 rfl rfl ?_
  refine x_callS0 e_Md_93 (t_Md_isProvince a1 V L _ rfl) rfl rfl rfl (Nat.le_of_ble_eq_true rfl) (xfit_of (by omega) (Nat.le_of_ble_eq_true rfl)) (Nat.zero_le _) (Nat.zero_le _) d_Md_folk_1 ?_
  refine x_if_eq 38 d_Md_folk_4 (by decide) (fun c2 => ?_) (fun c2 => ?_)
  · replace h := xpos c2 h
    refine x_iconst (-1) d_Md_folk_38 (by decide) ?_
    obtain rfl := Option.some.inj h
    exact x_ireturn rfl d_Md_folk_39 (Nat.le_refl _) (Nat.le_refl _) ⟨rfl, rfl⟩
  · replace h := xneg c2 h
    refine x_iload_n 2 d_Md_folk_7 rfl rfl ?_
    refine x_iconst 0 d_Md_folk_8 (by decide) ?_
    refine x_bipush 9 d_Md_folk_9 (by decide) ?_
    refine x_callS0 e_Md_89 (t_Md_in a2 0 9 V L _ rfl) rfl rfl rfl (Nat.le_of_ble_eq_true rfl) (xfit_of (by omega) (Nat.le_of_ble_eq_true rfl)) (Nat.zero_le _) (Nat.zero_le _) d_Md_folk_11 ?_
    refine x_if_eq 38 d_Md_folk_14 (by decide) (fun c4 => ?_) (fun c4 => ?_)
    · replace h := xpos c4 h
      refine x_iconst (-1) d_Md_folk_38 (by decide) ?_
      obtain rfl := Option.some.inj h
      exact x_ireturn rfl d_Md_folk_39 (Nat.le_refl _) (Nat.le_refl _) ⟨rfl, rfl⟩
    · replace h := xneg c4 h
      refine x_iload_n 3 d_Md_folk_17 rfl rfl ?_
      refine x_iconst 0 d_Md_folk_18 (by decide) ?_
      refine x_bipush 9 d_Md_folk_19 (by decide) ?_
      refine x_callS0 e_Md_89 (t_Md_in a3 0 9 V L _ rfl) rfl rfl rfl (Nat.le_of_ble_eq_true rfl) (xfit_of (by omega) (Nat.le_of_ble_eq_true rfl)) (Nat.zero_le _) (Nat.zero_le _) d_Md_folk_21 ?_
      refine x_if_eq 38 d_Md_folk_24 (by decide) (fun c6 => ?_) (fun c6 => ?_)
      · replace h := xpos c6 h
        refine x_iconst (-1) d_Md_folk_38 (by decide) ?_
        obtain rfl := Option.some.inj h
        exact x_ireturn rfl d_Md_folk_39 (Nat.le_refl _) (Nat.le_refl _) ⟨rfl, rfl⟩
      · replace h := xneg c6 h
        refine x_aload_n 0 d_Md_folk_27 rfl rfl ?_
        refine x_getP (q := 66) f_Md_7 sh_65 rfl d_Md_folk_28 ?_
        refine x_iconst 0 d_Md_folk_31 (by decide) ?_
        refine x_ialoadC 0 sh_66 (by decide) (by decide) d_Md_folk_32 ?_
        refine x_bipush 12 d_Md_folk_33 (by decide) ?_
        refine x_icmp_ne 40 d_Md_folk_35 (by decide) (fun c7 => ?_) (fun c7 => ?_)
        · replace h := xpos c7 h
          refine x_sipush 170 d_Md_folk_40 (by decide) ?_
          refine x_iconst 3 d_Md_folk_43 (by decide) ?_
          refine x_aload_n 0 d_Md_folk_44 rfl rfl ?_
          refine x_getP (q := 66) f_Md_7 sh_65 rfl d_Md_folk_45 ?_
          refine x_iconst 0 d_Md_folk_48 (by decide) ?_
          refine x_ialoadC 0 sh_66 (by decide) (by decide) d_Md_folk_49 ?_
          refine x_imul d_Md_folk_50 ?_
          refine x_iadd d_Md_folk_51 ?_
          refine x_istore [(4, .int (170 + (3 * (V 66 0)))), (0, .ref 65), (1, .int a1), (2, .int a2), (3, .int a3)] d_Md_folk_52 (Nat.le_of_ble_eq_true rfl) rfl ?_
          refine x_aload_n 1 d_Md_folk_54 rfl rfl ?_
          refine x_getP (q := 66) f_Md_7 sh_65 rfl d_Md_folk_55 ?_
          refine x_iload 0 d_Md_folk_58 rfl ?_
          refine x_iload_n 2 d_Md_folk_60 rfl rfl ?_
          obtain ⟨c8, h⟩ := xguard h
          refine x_iastore sh_66 c8 d_Md_folk_61 ?_
          refine x_aload_n 1 d_Md_folk_62 rfl rfl ?_
          refine x_getP (q := 66) f_Md_7 sh_65 rfl d_Md_folk_63 ?_
          refine x_iload 0 d_Md_folk_66 rfl ?_
          refine x_iconst 1 d_Md_folk_68 (by decide) ?_
          refine x_iadd d_Md_folk_69 ?_
          refine x_iload_n 3 d_Md_folk_70 rfl rfl ?_
          obtain ⟨c9, h⟩ := xguard h
          refine x_iastore sh_66 c9 d_Md_folk_71 ?_
          refine x_aload_n 1 d_Md_folk_72 rfl rfl ?_
          refine x_getP (q := 66) f_Md_7 sh_65 rfl d_Md_folk_73 ?_
          refine x_iload 0 d_Md_folk_76 rfl ?_
          refine x_iconst 2 d_Md_folk_78 (by decide) ?_
          refine x_iadd d_Md_folk_79 ?_
          refine x_iload_n 4 d_Md_folk_80 rfl rfl ?_
          obtain ⟨c10, h⟩ := xguard h
          refine x_iastore sh_66 c10 d_Md_folk_81 ?_
          refine x_aload_n 1 d_Md_folk_82 rfl rfl ?_
          refine x_getP (q := 66) f_Md_7 sh_65 rfl d_Md_folk_83 ?_
          refine x_iconst 0 d_Md_folk_86 (by decide) ?_
          refine x_dup2 d_Md_folk_87 rfl rfl ?_
          refine x_ialoadC 0 sh_66 (by decide) (by decide) d_Md_folk_88 ?_
          refine x_iconst 1 d_Md_folk_89 (by decide) ?_
          refine x_iadd d_Md_folk_90 ?_
          refine x_iastoreC 0 sh_66 (by decide) (by decide) d_Md_folk_91 ?_
          refine x_aload_n 1 d_Md_folk_92 rfl rfl ?_
          refine x_getP (q := 66) f_Md_7 sh_65 rfl d_Md_folk_93 ?_
          refine x_iconst 0 d_Md_folk_96 (by decide) ?_
          refine x_ialoadC 0 sh_66 (by decide) (by decide) d_Md_folk_97 ?_
          refine x_iconst 1 d_Md_folk_98 (by decide) ?_
          refine x_isub d_Md_folk_99 ?_
          obtain rfl := Option.some.inj h
          exact x_ireturn rfl d_Md_folk_100 (Nat.le_refl _) (Nat.le_refl _) ⟨rfl, rfl⟩
        · replace h := xneg c7 h
          refine x_iconst (-1) d_Md_folk_38 (by decide) ?_
          obtain rfl := Option.some.inj h
          exact x_ireturn rfl d_Md_folk_39 (Nat.le_refl _) (Nat.le_refl _) ⟨rfl, rfl⟩
-- Md_isDay
def f_Md_isDay (a0 : Int32) : Int32 := (f_Md_in a0 0 29)
theorem t_Md_isDay (a0 : Int32) (V : xV) (L : xL) (res : Int32) (h : f_Md_isDay a0 = res) : xRuns (2) M_Md_isDay [.int a0] (SH, V, L) (fun o h' => o = some (.int res) ∧ h' = (SH, V, L)) := by
  refine xRuns_of (by decide) (Nat.le_of_ble_eq_true rfl) ?_
  unfold f_Md_isDay at h
  show X M_Md_isDay (xRm (2) M_Md_isDay) (xZ M_Md_isDay (fun o h' => o = some (.int res) ∧ h' = (SH, V, L))) SH V L 0 0 0 [(0, .int a0)] []
  refine x_iload_n 0 d_Md_isDay_0 rfl rfl ?_
  refine x_iconst 0 d_Md_isDay_1 (by decide) ?_
  refine x_bipush 29 d_Md_isDay_2 (by decide) ?_
  refine x_callS0 e_Md_89 (t_Md_in a0 0 29 V L _ rfl) rfl rfl rfl (Nat.le_of_ble_eq_true rfl) (xfit_of (by omega) (Nat.le_of_ble_eq_true rfl)) (Nat.zero_le _) (Nat.zero_le _) d_Md_isDay_4 ?_
  obtain rfl := h
  exact x_zreturn rfl (xnz (z_Md_in a0 0 29)) d_Md_isDay_7 (Nat.le_refl _) (Nat.le_refl _) ⟨rfl, rfl⟩
-- Md_sky
def f_Md_sky (a1 : Int32) (a2 : Int32) (V : xV) : Option (Int32 × xV) := (if (f_Md_isDay a1) = 0 then some (0, V) else (if ¬ (f_Md_in a2 0 9) = 0 then (if xI (10 + a1) 270 = true then some (1, x2 V 66 ((10 + a1).toNatClampNeg) a2) else none) else some (0, V)))
theorem t_Md_sky (a1 : Int32) (a2 : Int32) (V : xV) (L : xL) (res : Int32 × xV) (h : f_Md_sky a1 a2 V = some res) : xRuns (3) M_Md_sky [.ref 65, .int a1, .int a2] (SH, V, L) (fun o h' => o = some (.int res.1) ∧ h' = (SH, res.2, L)) := by
  refine xRuns_of (by decide) (Nat.le_of_ble_eq_true rfl) ?_
  unfold f_Md_sky at h
  show X M_Md_sky (xRm (3) M_Md_sky) (xZ M_Md_sky (fun o h' => o = some (.int res.1) ∧ h' = (SH, res.2, L))) SH V L 0 0 0 [(0, .ref 65), (1, .int a1), (2, .int a2)] []
  refine x_iload_n 1 d_Md_sky_0 rfl rfl ?_
  refine x_callS0 e_Md_97 (t_Md_isDay a1 V L _ rfl) rfl rfl rfl (Nat.le_of_ble_eq_true rfl) (xfit_of (by omega) (Nat.le_of_ble_eq_true rfl)) (Nat.zero_le _) (Nat.zero_le _) d_Md_sky_1 ?_
  refine x_if_eq 17 d_Md_sky_4 (by decide) (fun c2 => ?_) (fun c2 => ?_)
  · replace h := xpos c2 h
    refine x_iconst 0 d_Md_sky_17 (by decide) ?_
    obtain rfl := Option.some.inj h
    exact x_zreturn rfl rfl d_Md_sky_18 (Nat.le_refl _) (Nat.le_refl _) ⟨rfl, rfl⟩
  · replace h := xneg c2 h
    refine x_iload_n 2 d_Md_sky_7 rfl rfl ?_
    refine x_iconst 0 d_Md_sky_8 (by decide) ?_
    refine x_bipush 9 d_Md_sky_9 (by decide) ?_
    refine x_callS0 e_Md_89 (t_Md_in a2 0 9 V L _ rfl) rfl rfl rfl (Nat.le_of_ble_eq_true rfl) (xfit_of (by omega) (Nat.le_of_ble_eq_true rfl)) (Nat.zero_le _) (Nat.zero_le _) d_Md_sky_11 ?_
    refine x_if_ne 19 d_Md_sky_14 (by decide) (fun c4 => ?_) (fun c4 => ?_)
    · replace h := xpos c4 h
      refine x_aload_n 0 d_Md_sky_19 rfl rfl ?_
      refine x_getP (q := 66) f_Md_7 sh_65 rfl d_Md_sky_20 ?_
      refine x_bipush 10 d_Md_sky_23 (by decide) ?_
      refine x_iload_n 1 d_Md_sky_25 rfl rfl ?_
      refine x_iadd d_Md_sky_26 ?_
      refine x_iload_n 2 d_Md_sky_27 rfl rfl ?_
      obtain ⟨c5, h⟩ := xguard h
      refine x_iastore sh_66 c5 d_Md_sky_28 ?_
      refine x_iconst 1 d_Md_sky_29 (by decide) ?_
      obtain rfl := Option.some.inj h
      exact x_zreturn rfl rfl d_Md_sky_30 (Nat.le_refl _) (Nat.le_refl _) ⟨rfl, rfl⟩
    · replace h := xneg c4 h
      refine x_iconst 0 d_Md_sky_17 (by decide) ?_
      obtain rfl := Option.some.inj h
      exact x_zreturn rfl rfl d_Md_sky_18 (Nat.le_refl _) (Nat.le_refl _) ⟨rfl, rfl⟩
-- Md_wetDays
def b_Md_wetDays_4 (V : xV) (k4 : Int32 → Int32 → Option (Int32)) (v1 : Int32) (v2 : Int32) : Option (Int32) := (if 30 ≤ v2 then some v1 else (if xI (10 + v2) 270 = true then (if (V 66 (10 + v2).toNatClampNeg) < 5 then k4 (v1 + 0) (v2 + 1) else k4 (v1 + 1) (v2 + 1)) else none))
theorem tb_Md_wetDays_4 {V : xV} {L : xL} (k4 : Int32 → Int32 → Option (Int32)) (res : Int32) (hk4 : ∀ (v1 : Int32) (v2 : Int32), k4 v1 v2 = some res → X M_Md_wetDays (xRm (1) M_Md_wetDays) (xZ M_Md_wetDays (fun o h' => o = some (.int res) ∧ h' = (SH, V, L))) SH V L 0 0 4 [(0, .ref 65), (1, .int v1), (2, .int v2)] []) (v1 : Int32) (v2 : Int32) (h : b_Md_wetDays_4 V k4 v1 v2 = some res) : X M_Md_wetDays (xRm (1) M_Md_wetDays) (xZ M_Md_wetDays (fun o h' => o = some (.int res) ∧ h' = (SH, V, L))) SH V L 0 0 4 [(0, .ref 65), (1, .int v1), (2, .int v2)] [] := by
  unfold b_Md_wetDays_4 at h
  refine x_iload_n 2 d_Md_wetDays_4 rfl rfl ?_
  refine x_bipush 30 d_Md_wetDays_5 (by decide) ?_
  refine x_icmp_ge 37 d_Md_wetDays_7 (by decide) (fun c1 => ?_) (fun c1 => ?_)
  · replace h := xpos c1 h
    refine x_iload_n 1 d_Md_wetDays_37 rfl rfl ?_
    obtain rfl := Option.some.inj h
    exact x_ireturn rfl d_Md_wetDays_38 (Nat.le_refl _) (Nat.le_refl _) ⟨rfl, rfl⟩
  · replace h := xneg c1 h
    refine x_iload_n 1 d_Md_wetDays_10 rfl rfl ?_
    refine x_aload_n 0 d_Md_wetDays_11 rfl rfl ?_
    refine x_getP (q := 66) f_Md_7 sh_65 rfl d_Md_wetDays_12 ?_
    refine x_bipush 10 d_Md_wetDays_15 (by decide) ?_
    refine x_iload_n 2 d_Md_wetDays_17 rfl rfl ?_
    refine x_iadd d_Md_wetDays_18 ?_
    obtain ⟨c2, h⟩ := xguard h
    refine x_iaload sh_66 c2 d_Md_wetDays_19 ?_
    refine x_iconst 5 d_Md_wetDays_20 (by decide) ?_
    refine x_icmp_lt 28 d_Md_wetDays_21 (by decide) (fun c3 => ?_) (fun c3 => ?_)
    · replace h := xpos c3 h
      refine x_iconst 0 d_Md_wetDays_28 (by decide) ?_
      refine x_iadd d_Md_wetDays_29 ?_
      refine x_istore_n [(1, .int (v1 + 0)), (0, .ref 65), (2, .int v2)] d_Md_wetDays_30 rfl (Nat.le_of_ble_eq_true rfl) rfl ?_
      refine x_iinc 2 1 [(2, .int (v2 + 1)), (1, .int (v1 + 0)), (0, .ref 65)] d_Md_wetDays_31 rfl (by decide) (Nat.le_of_ble_eq_true rfl) rfl ?_
      refine x_goto 4 d_Md_wetDays_34 (by decide) ?_
      refine x_pick [2, 1, 0] rfl ?_
      exact hk4 (v1 + 0) (v2 + 1) h
    · replace h := xneg c3 h
      refine x_iconst 1 d_Md_wetDays_24 (by decide) ?_
      refine x_goto 29 d_Md_wetDays_25 (by decide) ?_
      refine x_iadd d_Md_wetDays_29 ?_
      refine x_istore_n [(1, .int (v1 + 1)), (0, .ref 65), (2, .int v2)] d_Md_wetDays_30 rfl (Nat.le_of_ble_eq_true rfl) rfl ?_
      refine x_iinc 2 1 [(2, .int (v2 + 1)), (1, .int (v1 + 1)), (0, .ref 65)] d_Md_wetDays_31 rfl (by decide) (Nat.le_of_ble_eq_true rfl) rfl ?_
      refine x_goto 4 d_Md_wetDays_34 (by decide) ?_
      refine x_pick [2, 1, 0] rfl ?_
      exact hk4 (v1 + 1) (v2 + 1) h
def g_Md_wetDays_4 (V : xV) : Nat → Int32 → Int32 → Option (Int32)
  | 0, _, _ => none
  | n + 1, v1, v2 => b_Md_wetDays_4 V (g_Md_wetDays_4 V n) v1 v2
theorem tg_Md_wetDays_4 {V : xV} {L : xL} (res : Int32)  : ∀ (n : Nat) (v1 : Int32) (v2 : Int32), g_Md_wetDays_4 V n v1 v2 = some res → X M_Md_wetDays (xRm (1) M_Md_wetDays) (xZ M_Md_wetDays (fun o h' => o = some (.int res) ∧ h' = (SH, V, L))) SH V L 0 0 4 [(0, .ref 65), (1, .int v1), (2, .int v2)] []
  | 0, _, _, h => by cases h
  | n + 1, v1, v2, h => tb_Md_wetDays_4 (V := V) (L := L) (g_Md_wetDays_4 V n) res (tg_Md_wetDays_4 (V := V) (L := L) res n) v1 v2 h
def f_Md_wetDays (V : xV) : Option (Int32) := g_Md_wetDays_4 V 2000 0 0
theorem t_Md_wetDays  (V : xV) (L : xL) (res : Int32) (h : f_Md_wetDays V = some res) : xRuns (1) M_Md_wetDays [.ref 65] (SH, V, L) (fun o h' => o = some (.int res) ∧ h' = (SH, V, L)) := by
  refine xRuns_of (by decide) (Nat.le_of_ble_eq_true rfl) ?_
  unfold f_Md_wetDays at h
  show X M_Md_wetDays (xRm (1) M_Md_wetDays) (xZ M_Md_wetDays (fun o h' => o = some (.int res) ∧ h' = (SH, V, L))) SH V L 0 0 0 [(0, .ref 65)] []
  refine x_iconst 0 d_Md_wetDays_0 (by decide) ?_
  refine x_istore_n [(1, .int 0), (0, .ref 65)] d_Md_wetDays_1 rfl (Nat.le_of_ble_eq_true rfl) rfl ?_
  refine x_iconst 0 d_Md_wetDays_2 (by decide) ?_
  refine x_istore_n [(2, .int 0), (1, .int 0), (0, .ref 65)] d_Md_wetDays_3 rfl (Nat.le_of_ble_eq_true rfl) rfl ?_
  refine x_pick [2, 1, 0] rfl ?_
  exact tg_Md_wetDays_4 (V := V) (L := L) res _ 0 0 h
-- Md_skies
def b_Md_skies_23 (k23 : Int32 → Int32 → xV → Option (Int32 × xV)) (v2 : Int32) (v3 : Int32) (V : xV) : Option (Int32 × xV) := (if 30 ≤ v3 then (Option.bind (f_Md_wetDays V) fun p4 => some (p4, V)) else (if xI (10 + v3) 270 = true then k23 (xrem ((v2 * 233) + 61) 30139) (v3 + 1) (x2 V 66 ((10 + v3).toNatClampNeg) (xrem v2 10)) else none))
theorem tb_Md_skies_23 {L : xL} (k23 : Int32 → Int32 → xV → Option (Int32 × xV)) (res : Int32 × xV) (hk23 : ∀ (v2 : Int32) (v3 : Int32) (V : xV), k23 v2 v3 V = some res → X M_Md_skies (xRm (2) M_Md_skies) (xZ M_Md_skies (fun o h' => o = some (.int res.1) ∧ h' = (SH, res.2, L))) SH V L 0 0 23 [(0, .ref 65), (2, .int v2), (3, .int v3)] []) (v2 : Int32) (v3 : Int32) (V : xV) (h : b_Md_skies_23 k23 v2 v3 V = some res) : X M_Md_skies (xRm (2) M_Md_skies) (xZ M_Md_skies (fun o h' => o = some (.int res.1) ∧ h' = (SH, res.2, L))) SH V L 0 0 23 [(0, .ref 65), (2, .int v2), (3, .int v3)] [] := by
  unfold b_Md_skies_23 at h
  refine x_iload_n 2 d_Md_skies_23 rfl rfl ?_
  refine x_bipush 30 d_Md_skies_24 (by decide) ?_
  refine x_icmp_ge 61 d_Md_skies_26 (by decide) (fun c3 => ?_) (fun c3 => ?_)
  · replace h := xpos c3 h
    refine x_aload_n 0 d_Md_skies_61 rfl rfl ?_
    obtain ⟨p4, e5, h⟩ := xbind h
    refine x_callV0 e_Md_100 sh_65 rfl (t_Md_wetDays V L _ e5) rfl rfl rfl (Nat.le_of_ble_eq_true rfl) (xfit_of (by omega) (Nat.le_of_ble_eq_true rfl)) (Nat.zero_le _) (Nat.zero_le _) d_Md_skies_62 ?_
    obtain rfl := Option.some.inj h
    exact x_ireturn rfl d_Md_skies_65 (Nat.le_refl _) (Nat.le_refl _) ⟨rfl, rfl⟩
  · replace h := xneg c3 h
    refine x_aload_n 0 d_Md_skies_29 rfl rfl ?_
    refine x_getP (q := 66) f_Md_7 sh_65 rfl d_Md_skies_30 ?_
    refine x_bipush 10 d_Md_skies_33 (by decide) ?_
    refine x_iload_n 2 d_Md_skies_35 rfl rfl ?_
    refine x_iadd d_Md_skies_36 ?_
    refine x_iload_n 1 d_Md_skies_37 rfl rfl ?_
    refine x_bipush 10 d_Md_skies_38 (by decide) ?_
    refine x_irem2 d_Md_skies_40 (by decide) ?_
    obtain ⟨c6, h⟩ := xguard h
    refine x_iastore sh_66 c6 d_Md_skies_41 ?_
    refine x_iload_n 1 d_Md_skies_42 rfl rfl ?_
    refine x_sipush 233 d_Md_skies_43 (by decide) ?_
    refine x_imul d_Md_skies_46 ?_
    refine x_bipush 61 d_Md_skies_47 (by decide) ?_
    refine x_iadd d_Md_skies_49 ?_
    refine x_sipush 30139 d_Md_skies_50 (by decide) ?_
    refine x_irem2 d_Md_skies_53 (by decide) ?_
    refine x_istore_n [(2, .int (xrem ((v2 * 233) + 61) 30139)), (0, .ref 65), (3, .int v3)] d_Md_skies_54 rfl (Nat.le_of_ble_eq_true rfl) rfl ?_
    refine x_iinc 2 1 [(3, .int (v3 + 1)), (2, .int (xrem ((v2 * 233) + 61) 30139)), (0, .ref 65)] d_Md_skies_55 rfl (by decide) (Nat.le_of_ble_eq_true rfl) rfl ?_
    refine x_goto 23 d_Md_skies_58 (by decide) ?_
    refine x_pick [2, 1, 0] rfl ?_
    exact hk23 (xrem ((v2 * 233) + 61) 30139) (v3 + 1) (x2 V 66 ((10 + v3).toNatClampNeg) (xrem v2 10)) h
def g_Md_skies_23  : Nat → Int32 → Int32 → xV → Option (Int32 × xV)
  | 0, _, _, _ => none
  | n + 1, v2, v3, V => b_Md_skies_23 (g_Md_skies_23  n) v2 v3 V
theorem tg_Md_skies_23 {L : xL} (res : Int32 × xV)  : ∀ (n : Nat) (v2 : Int32) (v3 : Int32) (V : xV), g_Md_skies_23  n v2 v3 V = some res → X M_Md_skies (xRm (2) M_Md_skies) (xZ M_Md_skies (fun o h' => o = some (.int res.1) ∧ h' = (SH, res.2, L))) SH V L 0 0 23 [(0, .ref 65), (2, .int v2), (3, .int v3)] []
  | 0, _, _, _, h => by cases h
  | n + 1, v2, v3, V, h => tb_Md_skies_23 (L := L) (g_Md_skies_23  n) res (tg_Md_skies_23 (L := L) res n) v2 v3 V h
def f_Md_skies (a1 : Int32) (V : xV) : Option (Int32 × xV) := (if ¬ (f_Md_in a1 0 9999) = 0 then g_Md_skies_23 2000 ((a1 * 11) + 7) 0 V else some ((-1), V))
theorem t_Md_skies (a1 : Int32) (V : xV) (L : xL) (res : Int32 × xV) (h : f_Md_skies a1 V = some res) : xRuns (2) M_Md_skies [.ref 65, .int a1] (SH, V, L) (fun o h' => o = some (.int res.1) ∧ h' = (SH, res.2, L)) := by
  refine xRuns_of (by decide) (Nat.le_of_ble_eq_true rfl) ?_
  unfold f_Md_skies at h
  show X M_Md_skies (xRm (2) M_Md_skies) (xZ M_Md_skies (fun o h' => o = some (.int res.1) ∧ h' = (SH, res.2, L))) SH V L 0 0 0 [(0, .ref 65), (1, .int a1)] []
  refine x_iload_n 1 d_Md_skies_0 rfl rfl ?_
  refine x_iconst 0 d_Md_skies_1 (by decide) ?_
  refine x_sipush 9999 d_Md_skies_2 (by decide) ?_
  refine x_callS0 e_Md_89 (t_Md_in a1 0 9999 V L _ rfl) rfl rfl rfl (Nat.le_of_ble_eq_true rfl) (xfit_of (by omega) (Nat.le_of_ble_eq_true rfl)) (Nat.zero_le _) (Nat.zero_le _) d_Md_skies_5 ?_
  refine x_if_ne 13 d_Md_skies_8 (by decide) (fun c2 => ?_) (fun c2 => ?_)
  · replace h := xpos c2 h
    refine x_iload_n 1 d_Md_skies_13 rfl rfl ?_
    refine x_bipush 11 d_Md_skies_14 (by decide) ?_
    refine x_imul d_Md_skies_16 ?_
    refine x_bipush 7 d_Md_skies_17 (by decide) ?_
    refine x_iadd d_Md_skies_19 ?_
    refine x_istore_n [(2, .int ((a1 * 11) + 7)), (0, .ref 65), (1, .int a1)] d_Md_skies_20 rfl (Nat.le_of_ble_eq_true rfl) rfl ?_
    refine x_iconst 0 d_Md_skies_21 (by decide) ?_
    refine x_istore_n [(3, .int 0), (2, .int ((a1 * 11) + 7)), (0, .ref 65), (1, .int a1)] d_Md_skies_22 rfl (Nat.le_of_ble_eq_true rfl) rfl ?_
    refine x_pick [2, 1, 0] rfl ?_
    exact tg_Md_skies_23 (L := L) res _ ((a1 * 11) + 7) 0 V h
  · replace h := xneg c2 h
    refine x_iconst (-1) d_Md_skies_11 (by decide) ?_
    obtain rfl := Option.some.inj h
    exact x_ireturn rfl d_Md_skies_12 (Nat.le_refl _) (Nat.le_refl _) ⟨rfl, rfl⟩
-- Md_decrees
def b_Md_decrees_85 (v1 : Int32) (v2 : Int32) (V : xV) : Option (Int32 × xV) := (if xI (210 + (V 66 4)) 270 = true then some (1, x2 (x2 V 66 ((210 + (V 66 4)).toNatClampNeg) ((10 * v1) + v2)) 66 4 (((x2 V 66 ((210 + (V 66 4)).toNatClampNeg) ((10 * v1) + v2)) 66 4) + 1)) else none)
theorem tb_Md_decrees_85 {L : xL} (res : Int32 × xV)  (v1 : Int32) (v2 : Int32) (V : xV) (h : b_Md_decrees_85 v1 v2 V = some res) : X M_Md_decrees (xRm (1) M_Md_decrees) (xZ M_Md_decrees (fun o h' => o = some (.int res.1) ∧ h' = (SH, res.2, L))) SH V L 0 0 85 [(0, .ref 65), (1, .int v1), (2, .int v2)] [] := by
  unfold b_Md_decrees_85 at h
  refine x_aload_n 0 d_Md_decrees_85 rfl rfl ?_
  refine x_getP (q := 66) f_Md_7 sh_65 rfl d_Md_decrees_86 ?_
  refine x_sipush 210 d_Md_decrees_89 (by decide) ?_
  refine x_aload_n 0 d_Md_decrees_92 rfl rfl ?_
  refine x_getP (q := 66) f_Md_7 sh_65 rfl d_Md_decrees_93 ?_
  refine x_iconst 4 d_Md_decrees_96 (by decide) ?_
  refine x_ialoadC 4 sh_66 (by decide) (by decide) d_Md_decrees_97 ?_
  refine x_iadd d_Md_decrees_98 ?_
  refine x_bipush 10 d_Md_decrees_99 (by decide) ?_
  refine x_iload_n 1 d_Md_decrees_101 rfl rfl ?_
  refine x_imul d_Md_decrees_102 ?_
  refine x_iload_n 2 d_Md_decrees_103 rfl rfl ?_
  refine x_iadd d_Md_decrees_104 ?_
  obtain ⟨c8, h⟩ := xguard h
  refine x_iastore sh_66 c8 d_Md_decrees_105 ?_
  refine x_aload_n 0 d_Md_decrees_106 rfl rfl ?_
  refine x_getP (q := 66) f_Md_7 sh_65 rfl d_Md_decrees_107 ?_
  refine x_iconst 4 d_Md_decrees_110 (by decide) ?_
  refine x_dup2 d_Md_decrees_111 rfl rfl ?_
  refine x_ialoadC 4 sh_66 (by decide) (by decide) d_Md_decrees_112 ?_
  refine x_iconst 1 d_Md_decrees_113 (by decide) ?_
  refine x_iadd d_Md_decrees_114 ?_
  refine x_iastoreC 4 sh_66 (by decide) (by decide) d_Md_decrees_115 ?_
  refine x_iconst 1 d_Md_decrees_116 (by decide) ?_
  obtain rfl := Option.some.inj h
  exact x_zreturn rfl rfl d_Md_decrees_117 (Nat.le_refl _) (Nat.le_refl _) ⟨rfl, rfl⟩
def b_Md_decrees_47 (k47 : Int32 → Int32 → Int32 → xV → Option (Int32 × xV)) (v1 : Int32) (v2 : Int32) (v5 : Int32) (V : xV) : Option (Int32 × xV) := (if 269 ≤ v5 then b_Md_decrees_85 v1 v2 (x2 V 66 4 59) else (if xI (v5 + 1) 270 = true then (if xI v5 270 = true then k47 v1 v2 (v5 + 1) (x2 V 66 v5.toNatClampNeg (V 66 (v5 + 1).toNatClampNeg)) else none) else none))
theorem tb_Md_decrees_47 {L : xL} (k47 : Int32 → Int32 → Int32 → xV → Option (Int32 × xV)) (res : Int32 × xV) (hk47 : ∀ (v1 : Int32) (v2 : Int32) (v5 : Int32) (V : xV), k47 v1 v2 v5 V = some res → X M_Md_decrees (xRm (1) M_Md_decrees) (xZ M_Md_decrees (fun o h' => o = some (.int res.1) ∧ h' = (SH, res.2, L))) SH V L 0 0 47 [(0, .ref 65), (1, .int v1), (2, .int v2), (5, .int v5)] []) (v1 : Int32) (v2 : Int32) (v5 : Int32) (V : xV) (h : b_Md_decrees_47 k47 v1 v2 v5 V = some res) : X M_Md_decrees (xRm (1) M_Md_decrees) (xZ M_Md_decrees (fun o h' => o = some (.int res.1) ∧ h' = (SH, res.2, L))) SH V L 0 0 47 [(0, .ref 65), (1, .int v1), (2, .int v2), (5, .int v5)] [] := by
  unfold b_Md_decrees_47 at h
  refine x_iload 3 d_Md_decrees_47 rfl ?_
  refine x_sipush 269 d_Md_decrees_49 (by decide) ?_
  refine x_icmp_ge 77 d_Md_decrees_52 (by decide) (fun c5 => ?_) (fun c5 => ?_)
  · replace h := xpos c5 h
    refine x_aload_n 0 d_Md_decrees_77 rfl rfl ?_
    refine x_getP (q := 66) f_Md_7 sh_65 rfl d_Md_decrees_78 ?_
    refine x_iconst 4 d_Md_decrees_81 (by decide) ?_
    refine x_bipush 59 d_Md_decrees_82 (by decide) ?_
    refine x_iastoreC 4 sh_66 (by decide) (by decide) d_Md_decrees_84 ?_
    refine x_pick [0, 1, 2] rfl ?_
    exact tb_Md_decrees_85 (L := L) res v1 v2 (x2 V 66 4 59) h
  · replace h := xneg c5 h
    refine x_aload_n 0 d_Md_decrees_55 rfl rfl ?_
    refine x_getP (q := 66) f_Md_7 sh_65 rfl d_Md_decrees_56 ?_
    refine x_iload 3 d_Md_decrees_59 rfl ?_
    refine x_aload_n 0 d_Md_decrees_61 rfl rfl ?_
    refine x_getP (q := 66) f_Md_7 sh_65 rfl d_Md_decrees_62 ?_
    refine x_iload 3 d_Md_decrees_65 rfl ?_
    refine x_iconst 1 d_Md_decrees_67 (by decide) ?_
    refine x_iadd d_Md_decrees_68 ?_
    obtain ⟨c6, h⟩ := xguard h
    refine x_iaload sh_66 c6 d_Md_decrees_69 ?_
    obtain ⟨c7, h⟩ := xguard h
    refine x_iastore sh_66 c7 d_Md_decrees_70 ?_
    refine x_iinc 3 1 [(5, .int (v5 + 1)), (0, .ref 65), (1, .int v1), (2, .int v2)] d_Md_decrees_71 rfl (by decide) (Nat.le_of_ble_eq_true rfl) rfl ?_
    refine x_goto 47 d_Md_decrees_74 (by decide) ?_
    refine x_pick [1, 2, 3, 0] rfl ?_
    exact hk47 v1 v2 (v5 + 1) (x2 V 66 v5.toNatClampNeg (V 66 (v5 + 1).toNatClampNeg)) h
def g_Md_decrees_47  : Nat → Int32 → Int32 → Int32 → xV → Option (Int32 × xV)
  | 0, _, _, _, _ => none
  | n + 1, v1, v2, v5, V => b_Md_decrees_47 (g_Md_decrees_47  n) v1 v2 v5 V
theorem tg_Md_decrees_47 {L : xL} (res : Int32 × xV)  : ∀ (n : Nat) (v1 : Int32) (v2 : Int32) (v5 : Int32) (V : xV), g_Md_decrees_47  n v1 v2 v5 V = some res → X M_Md_decrees (xRm (1) M_Md_decrees) (xZ M_Md_decrees (fun o h' => o = some (.int res.1) ∧ h' = (SH, res.2, L))) SH V L 0 0 47 [(0, .ref 65), (1, .int v1), (2, .int v2), (5, .int v5)] []
  | 0, _, _, _, _, h => by cases h
  | n + 1, v1, v2, v5, V, h => tb_Md_decrees_47 (L := L) (g_Md_decrees_47  n) res (tg_Md_decrees_47 (L := L) res n) v1 v2 v5 V h
def f_Md_decrees (a1 : Int32) (a2 : Int32) (a3 : Int32) (V : xV) : Option (Int32 × xV) := (if xI ((40 + (4 * a1)) + a2) 270 = true then (if ¬ (V 66 ((40 + (4 * a1)) + a2).toNatClampNeg) = a3 then (if xI ((40 + (4 * a1)) + a2) 270 = true then (if ¬ ((x2 V 66 (((40 + (4 * a1)) + a2).toNatClampNeg) a3) 66 4) = 60 then b_Md_decrees_85 a1 a2 (x2 V 66 (((40 + (4 * a1)) + a2).toNatClampNeg) a3) else g_Md_decrees_47 2000 a1 a2 210 (x2 V 66 (((40 + (4 * a1)) + a2).toNatClampNeg) a3)) else none) else some (0, V)) else none)
theorem t_Md_decrees (a1 : Int32) (a2 : Int32) (a3 : Int32) (V : xV) (L : xL) (res : Int32 × xV) (h : f_Md_decrees a1 a2 a3 V = some res) : xRuns (1) M_Md_decrees [.ref 65, .int a1, .int a2, .int a3] (SH, V, L) (fun o h' => o = some (.int res.1) ∧ h' = (SH, res.2, L)) := by
  refine xRuns_of (by decide) (Nat.le_of_ble_eq_true rfl) ?_
  unfold f_Md_decrees at h
  show X M_Md_decrees (xRm (1) M_Md_decrees) (xZ M_Md_decrees (fun o h' => o = some (.int res.1) ∧ h' = (SH, res.2, L))) SH V L 0 0 0 [(0, .ref 65), (1, .int a1), (2, .int a2), (3, .int a3)] []
  refine x_bipush 40 d_Md_decrees_0 (by decide) ?_
  refine x_iconst 4 d_Md_decrees_2 (by decide) ?_
  refine x_iload_n 1 d_Md_decrees_3 rfl rfl ?_
  refine x_imul d_Md_decrees_4 ?_
  refine x_iadd d_Md_decrees_5 ?_
  refine x_iload_n 2 d_Md_decrees_6 rfl rfl ?_
  refine x_iadd d_Md_decrees_7 ?_
  refine x_istore [(4, .int ((40 + (4 * a1)) + a2)), (0, .ref 65), (1, .int a1), (2, .int a2), (3, .int a3)] d_Md_decrees_8 (Nat.le_of_ble_eq_true rfl) rfl ?_
  refine x_aload_n 1 d_Md_decrees_10 rfl rfl ?_
  refine x_getP (q := 66) f_Md_7 sh_65 rfl d_Md_decrees_11 ?_
  refine x_iload 0 d_Md_decrees_14 rfl ?_
  obtain ⟨c1, h⟩ := xguard h
  refine x_iaload sh_66 c1 d_Md_decrees_16 ?_
  refine x_iload_n 4 d_Md_decrees_17 rfl rfl ?_
  refine x_icmp_ne 23 d_Md_decrees_18 (by decide) (fun c2 => ?_) (fun c2 => ?_)
  · replace h := xpos c2 h
    refine x_aload_n 1 d_Md_decrees_23 rfl rfl ?_
    refine x_getP (q := 66) f_Md_7 sh_65 rfl d_Md_decrees_24 ?_
    refine x_iload 0 d_Md_decrees_27 rfl ?_
    refine x_iload_n 4 d_Md_decrees_29 rfl rfl ?_
    obtain ⟨c3, h⟩ := xguard h
    refine x_iastore sh_66 c3 d_Md_decrees_30 ?_
    refine x_aload_n 1 d_Md_decrees_31 rfl rfl ?_
    refine x_getP (q := 66) f_Md_7 sh_65 rfl d_Md_decrees_32 ?_
    refine x_iconst 4 d_Md_decrees_35 (by decide) ?_
    refine x_ialoadC 4 sh_66 (by decide) (by decide) d_Md_decrees_36 ?_
    refine x_bipush 60 d_Md_decrees_37 (by decide) ?_
    refine x_icmp_ne 85 d_Md_decrees_39 (by decide) (fun c4 => ?_) (fun c4 => ?_)
    · replace h := xpos c4 h
      refine x_pick [1, 2, 3] rfl ?_
      exact tb_Md_decrees_85 (L := L) res a1 a2 (x2 V 66 (((40 + (4 * a1)) + a2).toNatClampNeg) a3) h
    · replace h := xneg c4 h
      refine x_sipush 210 d_Md_decrees_42 (by decide) ?_
      refine x_istore [(5, .int 210), (4, .int ((40 + (4 * a1)) + a2)), (0, .ref 65), (1, .int a1), (2, .int a2), (3, .int a3)] d_Md_decrees_45 (Nat.le_of_ble_eq_true rfl) rfl ?_
      refine x_pick [2, 3, 4, 0] rfl ?_
      exact tg_Md_decrees_47 (L := L) res _ a1 a2 210 (x2 V 66 (((40 + (4 * a1)) + a2).toNatClampNeg) a3) h
  · replace h := xneg c2 h
    refine x_iconst 0 d_Md_decrees_21 (by decide) ?_
    obtain rfl := Option.some.inj h
    exact x_zreturn rfl rfl d_Md_decrees_22 (Nat.le_refl _) (Nat.le_refl _) ⟨rfl, rfl⟩
-- Md_decree
def f_Md_decree (a1 : Int32) (a2 : Int32) (a3 : Int32) (V : xV) : Option (Int32 × xV) := (if (f_Md_isDay a1) = 0 then some (0, V) else (if ¬ (f_Md_isProvince a2) = 0 then (if a3 = 0 then (Option.bind (f_Md_decrees a1 a2 0 V) fun p6 => some (1, p6.2)) else (Option.bind (f_Md_decrees a1 a2 1 V) fun p8 => some (1, p8.2))) else some (0, V)))
theorem t_Md_decree (a1 : Int32) (a2 : Int32) (a3 : Int32) (V : xV) (L : xL) (res : Int32 × xV) (h : f_Md_decree a1 a2 a3 V = some res) : xRuns (3) M_Md_decree [.ref 65, .int a1, .int a2, .int a3] (SH, V, L) (fun o h' => o = some (.int res.1) ∧ h' = (SH, res.2, L)) := by
  refine xRuns_of (by decide) (Nat.le_of_ble_eq_true rfl) ?_
  unfold f_Md_decree at h
  show X M_Md_decree (xRm (3) M_Md_decree) (xZ M_Md_decree (fun o h' => o = some (.int res.1) ∧ h' = (SH, res.2, L))) SH V L 0 0 0 [(0, .ref 65), (1, .int a1), (2, .int a2), (3, .int a3)] []
  refine x_iload_n 1 d_Md_decree_0 rfl rfl ?_
  refine x_callS0 e_Md_97 (t_Md_isDay a1 V L _ rfl) rfl rfl rfl (Nat.le_of_ble_eq_true rfl) (xfit_of (by omega) (Nat.le_of_ble_eq_true rfl)) (Nat.zero_le _) (Nat.zero_le _) d_Md_decree_1 ?_
  refine x_if_eq 14 d_Md_decree_4 (by decide) (fun c2 => ?_) (fun c2 => ?_)
  · replace h := xpos c2 h
    refine x_iconst 0 d_Md_decree_14 (by decide) ?_
    obtain rfl := Option.some.inj h
    exact x_zreturn rfl rfl d_Md_decree_15 (Nat.le_refl _) (Nat.le_refl _) ⟨rfl, rfl⟩
  · replace h := xneg c2 h
    refine x_iload_n 2 d_Md_decree_7 rfl rfl ?_
    refine x_callS0 e_Md_93 (t_Md_isProvince a2 V L _ rfl) rfl rfl rfl (Nat.le_of_ble_eq_true rfl) (xfit_of (by omega) (Nat.le_of_ble_eq_true rfl)) (Nat.zero_le _) (Nat.zero_le _) d_Md_decree_8 ?_
    refine x_if_ne 16 d_Md_decree_11 (by decide) (fun c4 => ?_) (fun c4 => ?_)
    · replace h := xpos c4 h
      refine x_aload_n 0 d_Md_decree_16 rfl rfl ?_
      refine x_iload_n 1 d_Md_decree_17 rfl rfl ?_
      refine x_iload_n 2 d_Md_decree_18 rfl rfl ?_
      refine x_iload_n 3 d_Md_decree_19 rfl rfl ?_
      refine x_if_eq 27 d_Md_decree_20 (by decide) (fun c5 => ?_) (fun c5 => ?_)
      · replace h := xpos c5 h
        refine x_iconst 0 d_Md_decree_27 (by decide) ?_
        obtain ⟨p6, e7, h⟩ := xbind h
        refine x_callV0 e_Md_104 sh_65 rfl (t_Md_decrees a1 a2 0 V L _ e7) rfl rfl rfl (Nat.le_of_ble_eq_true rfl) (xfit_of (by omega) (Nat.le_of_ble_eq_true rfl)) (Nat.zero_le _) (Nat.zero_le _) d_Md_decree_28 ?_
        refine x_istore [(4, .int p6.1), (0, .ref 65), (1, .int a1), (2, .int a2), (3, .int a3)] d_Md_decree_31 (Nat.le_of_ble_eq_true rfl) rfl ?_
        refine x_iconst 1 d_Md_decree_33 (by decide) ?_
        obtain rfl := Option.some.inj h
        exact x_zreturn rfl rfl d_Md_decree_34 (Nat.le_refl _) (Nat.le_refl _) ⟨rfl, rfl⟩
      · replace h := xneg c5 h
        refine x_iconst 1 d_Md_decree_23 (by decide) ?_
        refine x_goto 28 d_Md_decree_24 (by decide) ?_
        obtain ⟨p8, e9, h⟩ := xbind h
        refine x_callV0 e_Md_104 sh_65 rfl (t_Md_decrees a1 a2 1 V L _ e9) rfl rfl rfl (Nat.le_of_ble_eq_true rfl) (xfit_of (by omega) (Nat.le_of_ble_eq_true rfl)) (Nat.zero_le _) (Nat.zero_le _) d_Md_decree_28 ?_
        refine x_istore [(4, .int p8.1), (0, .ref 65), (1, .int a1), (2, .int a2), (3, .int a3)] d_Md_decree_31 (Nat.le_of_ble_eq_true rfl) rfl ?_
        refine x_iconst 1 d_Md_decree_33 (by decide) ?_
        obtain rfl := Option.some.inj h
        exact x_zreturn rfl rfl d_Md_decree_34 (Nat.le_refl _) (Nat.le_refl _) ⟨rfl, rfl⟩
    · replace h := xneg c4 h
      refine x_iconst 0 d_Md_decree_14 (by decide) ?_
      obtain rfl := Option.some.inj h
      exact x_zreturn rfl rfl d_Md_decree_15 (Nat.le_refl _) (Nat.le_refl _) ⟨rfl, rfl⟩
-- Md_chance
def f_Md_chance (a1 : Int32) (a2 : Int32) (V : xV) : Option (Int32 × xV) := (if (f_Md_in a1 0 9) = 0 then some (0, V) else (if ¬ (f_Md_in a2 0 9) = 0 then (if xI (160 + a1) 270 = true then some (1, x2 V 66 ((160 + a1).toNatClampNeg) a2) else none) else some (0, V)))
theorem t_Md_chance (a1 : Int32) (a2 : Int32) (V : xV) (L : xL) (res : Int32 × xV) (h : f_Md_chance a1 a2 V = some res) : xRuns (2) M_Md_chance [.ref 65, .int a1, .int a2] (SH, V, L) (fun o h' => o = some (.int res.1) ∧ h' = (SH, res.2, L)) := by
  refine xRuns_of (by decide) (Nat.le_of_ble_eq_true rfl) ?_
  unfold f_Md_chance at h
  show X M_Md_chance (xRm (2) M_Md_chance) (xZ M_Md_chance (fun o h' => o = some (.int res.1) ∧ h' = (SH, res.2, L))) SH V L 0 0 0 [(0, .ref 65), (1, .int a1), (2, .int a2)] []
  refine x_iload_n 1 d_Md_chance_0 rfl rfl ?_
  refine x_iconst 0 d_Md_chance_1 (by decide) ?_
  refine x_bipush 9 d_Md_chance_2 (by decide) ?_
  refine x_callS0 e_Md_89 (t_Md_in a1 0 9 V L _ rfl) rfl rfl rfl (Nat.le_of_ble_eq_true rfl) (xfit_of (by omega) (Nat.le_of_ble_eq_true rfl)) (Nat.zero_le _) (Nat.zero_le _) d_Md_chance_4 ?_
  refine x_if_eq 20 d_Md_chance_7 (by decide) (fun c2 => ?_) (fun c2 => ?_)
  · replace h := xpos c2 h
    refine x_iconst 0 d_Md_chance_20 (by decide) ?_
    obtain rfl := Option.some.inj h
    exact x_zreturn rfl rfl d_Md_chance_21 (Nat.le_refl _) (Nat.le_refl _) ⟨rfl, rfl⟩
  · replace h := xneg c2 h
    refine x_iload_n 2 d_Md_chance_10 rfl rfl ?_
    refine x_iconst 0 d_Md_chance_11 (by decide) ?_
    refine x_bipush 9 d_Md_chance_12 (by decide) ?_
    refine x_callS0 e_Md_89 (t_Md_in a2 0 9 V L _ rfl) rfl rfl rfl (Nat.le_of_ble_eq_true rfl) (xfit_of (by omega) (Nat.le_of_ble_eq_true rfl)) (Nat.zero_le _) (Nat.zero_le _) d_Md_chance_14 ?_
    refine x_if_ne 22 d_Md_chance_17 (by decide) (fun c4 => ?_) (fun c4 => ?_)
    · replace h := xpos c4 h
      refine x_aload_n 0 d_Md_chance_22 rfl rfl ?_
      refine x_getP (q := 66) f_Md_7 sh_65 rfl d_Md_chance_23 ?_
      refine x_sipush 160 d_Md_chance_26 (by decide) ?_
      refine x_iload_n 1 d_Md_chance_29 rfl rfl ?_
      refine x_iadd d_Md_chance_30 ?_
      refine x_iload_n 2 d_Md_chance_31 rfl rfl ?_
      obtain ⟨c5, h⟩ := xguard h
      refine x_iastore sh_66 c5 d_Md_chance_32 ?_
      refine x_iconst 1 d_Md_chance_33 (by decide) ?_
      obtain rfl := Option.some.inj h
      exact x_zreturn rfl rfl d_Md_chance_34 (Nat.le_refl _) (Nat.le_refl _) ⟨rfl, rfl⟩
    · replace h := xneg c4 h
      refine x_iconst 0 d_Md_chance_20 (by decide) ?_
      obtain rfl := Option.some.inj h
      exact x_zreturn rfl rfl d_Md_chance_21 (Nat.le_refl _) (Nat.le_refl _) ⟨rfl, rfl⟩
-- Md_ruin
def f_Md_ruin (a1 : Int32) (V : xV) : Int32 × xV := (if ¬ (f_Md_in a1 0 9999) = 0 then (1, x2 V 66 1 a1) else (0, V))
theorem t_Md_ruin (a1 : Int32) (V : xV) (L : xL) (res : Int32 × xV) (h : f_Md_ruin a1 V = res) : xRuns (2) M_Md_ruin [.ref 65, .int a1] (SH, V, L) (fun o h' => o = some (.int res.1) ∧ h' = (SH, res.2, L)) := by
  refine xRuns_of (by decide) (Nat.le_of_ble_eq_true rfl) ?_
  unfold f_Md_ruin at h
  show X M_Md_ruin (xRm (2) M_Md_ruin) (xZ M_Md_ruin (fun o h' => o = some (.int res.1) ∧ h' = (SH, res.2, L))) SH V L 0 0 0 [(0, .ref 65), (1, .int a1)] []
  refine x_iload_n 1 d_Md_ruin_0 rfl rfl ?_
  refine x_iconst 0 d_Md_ruin_1 (by decide) ?_
  refine x_sipush 9999 d_Md_ruin_2 (by decide) ?_
  refine x_callS0 e_Md_89 (t_Md_in a1 0 9999 V L _ rfl) rfl rfl rfl (Nat.le_of_ble_eq_true rfl) (xfit_of (by omega) (Nat.le_of_ble_eq_true rfl)) (Nat.zero_le _) (Nat.zero_le _) d_Md_ruin_5 ?_
  refine x_if_ne 13 d_Md_ruin_8 (by decide) (fun c2 => ?_) (fun c2 => ?_)
  · replace h := xpos c2 h
    refine x_aload_n 0 d_Md_ruin_13 rfl rfl ?_
    refine x_getP (q := 66) f_Md_7 sh_65 rfl d_Md_ruin_14 ?_
    refine x_iconst 1 d_Md_ruin_17 (by decide) ?_
    refine x_iload_n 1 d_Md_ruin_18 rfl rfl ?_
    refine x_iastoreC 1 sh_66 (by decide) (by decide) d_Md_ruin_19 ?_
    refine x_iconst 1 d_Md_ruin_20 (by decide) ?_
    obtain rfl := h
    exact x_zreturn rfl rfl d_Md_ruin_21 (Nat.le_refl _) (Nat.le_refl _) ⟨rfl, rfl⟩
  · replace h := xneg c2 h
    refine x_iconst 0 d_Md_ruin_11 (by decide) ?_
    obtain rfl := h
    exact x_zreturn rfl rfl d_Md_ruin_12 (Nat.le_refl _) (Nat.le_refl _) ⟨rfl, rfl⟩
-- Md_put
def b_Md_put_3 (k3 : Int32 → Int32 → xV → Option (xV)) (v1 : Int32) (v2 : Int32) (V : xV) : Option (xV) := (if v2 < 0 then some V else (if xI (V 65 3) 300 = true then k3 v1 (v2 - 8) (x2 (x2 V 68 ((V 65 3).toNatClampNeg) (vp_nar .byte ((v1 >>> (v2 &&& 31)).toInt8.toInt32))) 65 3 (((x2 V 68 ((V 65 3).toNatClampNeg) (vp_nar .byte ((v1 >>> (v2 &&& 31)).toInt8.toInt32))) 65 3) + 1)) else none))
theorem tb_Md_put_3 {L : xL} (k3 : Int32 → Int32 → xV → Option (xV)) (res : xV) (hk3 : ∀ (v1 : Int32) (v2 : Int32) (V : xV), k3 v1 v2 V = some res → X M_Md_put (xRm (1) M_Md_put) (xZ M_Md_put (fun o h' => o = none ∧ h' = (SH, res, L))) SH V L 0 0 3 [(0, .ref 65), (1, .int v1), (2, .int v2)] []) (v1 : Int32) (v2 : Int32) (V : xV) (h : b_Md_put_3 k3 v1 v2 V = some res) : X M_Md_put (xRm (1) M_Md_put) (xZ M_Md_put (fun o h' => o = none ∧ h' = (SH, res, L))) SH V L 0 0 3 [(0, .ref 65), (1, .int v1), (2, .int v2)] [] := by
  unfold b_Md_put_3 at h
  refine x_iload_n 2 d_Md_put_3 rfl rfl ?_
  refine x_if_lt 38 d_Md_put_4 (by decide) (fun c1 => ?_) (fun c1 => ?_)
  · replace h := xpos c1 h
    obtain rfl := Option.some.inj h
    exact x_return rfl d_Md_put_38 (Nat.le_refl _) (Nat.le_refl _) ⟨rfl, rfl⟩
  · replace h := xneg c1 h
    refine x_aload_n 0 d_Md_put_7 rfl rfl ?_
    refine x_getP (q := 68) f_Md_16 sh_65 rfl d_Md_put_8 ?_
    refine x_aload_n 0 d_Md_put_11 rfl rfl ?_
    refine x_getI f_Md_107 sh_65 rfl d_Md_put_12 ?_
    refine x_iload_n 1 d_Md_put_15 rfl rfl ?_
    refine x_iload_n 2 d_Md_put_16 rfl rfl ?_
    refine x_ishr d_Md_put_17 ?_
    refine x_i2b d_Md_put_18 ?_
    obtain ⟨c2, h⟩ := xguard h
    refine x_bastore sh_68 c2 d_Md_put_19 ?_
    refine x_aload_n 0 d_Md_put_20 rfl rfl ?_
    refine x_dup d_Md_put_21 rfl ?_
    refine x_getI f_Md_107 sh_65 rfl d_Md_put_22 ?_
    refine x_iconst 1 d_Md_put_25 (by decide) ?_
    refine x_iadd d_Md_put_26 ?_
    refine x_putI f_Md_107 sh_65 rfl rfl rfl d_Md_put_27 ?_
    refine x_iload_n 2 d_Md_put_30 rfl rfl ?_
    refine x_bipush 8 d_Md_put_31 (by decide) ?_
    refine x_isub d_Md_put_33 ?_
    refine x_istore_n [(2, .int (v2 - 8)), (0, .ref 65), (1, .int v1)] d_Md_put_34 rfl (Nat.le_of_ble_eq_true rfl) rfl ?_
    refine x_goto 3 d_Md_put_35 (by decide) ?_
    refine x_pick [1, 2, 0] rfl ?_
    exact hk3 v1 (v2 - 8) (x2 (x2 V 68 ((V 65 3).toNatClampNeg) (vp_nar .byte ((v1 >>> (v2 &&& 31)).toInt8.toInt32))) 65 3 (((x2 V 68 ((V 65 3).toNatClampNeg) (vp_nar .byte ((v1 >>> (v2 &&& 31)).toInt8.toInt32))) 65 3) + 1)) h
def g_Md_put_3  : Nat → Int32 → Int32 → xV → Option (xV)
  | 0, _, _, _ => none
  | n + 1, v1, v2, V => b_Md_put_3 (g_Md_put_3  n) v1 v2 V
theorem tg_Md_put_3 {L : xL} (res : xV)  : ∀ (n : Nat) (v1 : Int32) (v2 : Int32) (V : xV), g_Md_put_3  n v1 v2 V = some res → X M_Md_put (xRm (1) M_Md_put) (xZ M_Md_put (fun o h' => o = none ∧ h' = (SH, res, L))) SH V L 0 0 3 [(0, .ref 65), (1, .int v1), (2, .int v2)] []
  | 0, _, _, _, h => by cases h
  | n + 1, v1, v2, V, h => tb_Md_put_3 (L := L) (g_Md_put_3  n) res (tg_Md_put_3 (L := L) res n) v1 v2 V h
def f_Md_put (a1 : Int32) (V : xV) : Option (xV) := g_Md_put_3 2000 a1 24 V
theorem t_Md_put (a1 : Int32) (V : xV) (L : xL) (res : xV) (h : f_Md_put a1 V = some res) : xRuns (1) M_Md_put [.ref 65, .int a1] (SH, V, L) (fun o h' => o = none ∧ h' = (SH, res, L)) := by
  refine xRuns_of (by decide) (Nat.le_of_ble_eq_true rfl) ?_
  unfold f_Md_put at h
  show X M_Md_put (xRm (1) M_Md_put) (xZ M_Md_put (fun o h' => o = none ∧ h' = (SH, res, L))) SH V L 0 0 0 [(0, .ref 65), (1, .int a1)] []
  refine x_bipush 24 d_Md_put_0 (by decide) ?_
  refine x_istore_n [(2, .int 24), (0, .ref 65), (1, .int a1)] d_Md_put_2 rfl (Nat.le_of_ble_eq_true rfl) rfl ?_
  refine x_pick [1, 2, 0] rfl ?_
  exact tg_Md_put_3 (L := L) res _ a1 24 V h
-- Md_feed
def f_Md_feed (a1 : Int32) (a2 : Int32) (a3 : Int32) (a4 : Int32) (a5 : Int32) (V : xV) : Option (Int32 × xV) := (if ((V 65 3) + 20) ≤ 300 then (Option.bind (f_Md_put a1 V) fun p2 => (Option.bind (f_Md_put a2 p2) fun p4 => (Option.bind (f_Md_put a3 p4) fun p6 => (Option.bind (f_Md_put a4 p6) fun p8 => (Option.bind (f_Md_put a5 p8) fun p10 => some (p10 65 3, p10)))))) else some ((-1), V))
theorem t_Md_feed (a1 : Int32) (a2 : Int32) (a3 : Int32) (a4 : Int32) (a5 : Int32) (V : xV) (L : xL) (res : Int32 × xV) (h : f_Md_feed a1 a2 a3 a4 a5 V = some res) : xRuns (2) M_Md_feed [.ref 65, .int a1, .int a2, .int a3, .int a4, .int a5] (SH, V, L) (fun o h' => o = some (.int res.1) ∧ h' = (SH, res.2, L)) := by
  refine xRuns_of (by decide) (Nat.le_of_ble_eq_true rfl) ?_
  unfold f_Md_feed at h
  show X M_Md_feed (xRm (2) M_Md_feed) (xZ M_Md_feed (fun o h' => o = some (.int res.1) ∧ h' = (SH, res.2, L))) SH V L 0 0 0 [(0, .ref 65), (1, .int a1), (2, .int a2), (3, .int a3), (4, .int a4), (5, .int a5)] []
  refine x_aload_n 0 d_Md_feed_0 rfl rfl ?_
  refine x_getI f_Md_107 sh_65 rfl d_Md_feed_1 ?_
  refine x_bipush 20 d_Md_feed_4 (by decide) ?_
  refine x_iadd d_Md_feed_6 ?_
  refine x_sipush 300 d_Md_feed_7 (by decide) ?_
  refine x_icmp_le 15 d_Md_feed_10 (by decide) (fun c1 => ?_) (fun c1 => ?_)
  · replace h := xpos c1 h
    refine x_aload_n 0 d_Md_feed_15 rfl rfl ?_
    refine x_iload_n 1 d_Md_feed_16 rfl rfl ?_
    obtain ⟨p2, e3, h⟩ := xbind h
    refine x_callV0v e_Md_110 sh_65 rfl (t_Md_put a1 V L _ e3) rfl rfl rfl (Nat.le_of_ble_eq_true rfl) (xfit_of (by omega) (Nat.le_of_ble_eq_true rfl)) (Nat.zero_le _) (Nat.zero_le _) d_Md_feed_17 ?_
    refine x_aload_n 0 d_Md_feed_20 rfl rfl ?_
    refine x_iload_n 2 d_Md_feed_21 rfl rfl ?_
    obtain ⟨p4, e5, h⟩ := xbind h
    refine x_callV0v e_Md_110 sh_65 rfl (t_Md_put a2 p2 L _ e5) rfl rfl rfl (Nat.le_of_ble_eq_true rfl) (xfit_of (by omega) (Nat.le_of_ble_eq_true rfl)) (Nat.zero_le _) (Nat.zero_le _) d_Md_feed_22 ?_
    refine x_aload_n 0 d_Md_feed_25 rfl rfl ?_
    refine x_iload_n 3 d_Md_feed_26 rfl rfl ?_
    obtain ⟨p6, e7, h⟩ := xbind h
    refine x_callV0v e_Md_110 sh_65 rfl (t_Md_put a3 p4 L _ e7) rfl rfl rfl (Nat.le_of_ble_eq_true rfl) (xfit_of (by omega) (Nat.le_of_ble_eq_true rfl)) (Nat.zero_le _) (Nat.zero_le _) d_Md_feed_27 ?_
    refine x_aload_n 0 d_Md_feed_30 rfl rfl ?_
    refine x_iload 4 d_Md_feed_31 rfl ?_
    obtain ⟨p8, e9, h⟩ := xbind h
    refine x_callV0v e_Md_110 sh_65 rfl (t_Md_put a4 p6 L _ e9) rfl rfl rfl (Nat.le_of_ble_eq_true rfl) (xfit_of (by omega) (Nat.le_of_ble_eq_true rfl)) (Nat.zero_le _) (Nat.zero_le _) d_Md_feed_33 ?_
    refine x_aload_n 0 d_Md_feed_36 rfl rfl ?_
    refine x_iload 5 d_Md_feed_37 rfl ?_
    obtain ⟨p10, e11, h⟩ := xbind h
    refine x_callV0v e_Md_110 sh_65 rfl (t_Md_put a5 p8 L _ e11) rfl rfl rfl (Nat.le_of_ble_eq_true rfl) (xfit_of (by omega) (Nat.le_of_ble_eq_true rfl)) (Nat.zero_le _) (Nat.zero_le _) d_Md_feed_39 ?_
    refine x_aload_n 0 d_Md_feed_42 rfl rfl ?_
    refine x_getI f_Md_107 sh_65 rfl d_Md_feed_43 ?_
    obtain rfl := Option.some.inj h
    exact x_ireturn rfl d_Md_feed_46 (Nat.le_refl _) (Nat.le_refl _) ⟨rfl, rfl⟩
  · replace h := xneg c1 h
    refine x_iconst (-1) d_Md_feed_13 (by decide) ?_
    obtain rfl := Option.some.inj h
    exact x_ireturn rfl d_Md_feed_14 (Nat.le_refl _) (Nat.le_refl _) ⟨rfl, rfl⟩
-- Md_end
def f_Md_end (a1 : Int32) (V : xV) : Int32 × xV := (if ¬ (f_Md_in a1 0 (V 65 3)) = 0 then (a1, x2 V 65 3 a1) else ((-1), V))
theorem t_Md_end (a1 : Int32) (V : xV) (L : xL) (res : Int32 × xV) (h : f_Md_end a1 V = res) : xRuns (2) M_Md_end [.ref 65, .int a1] (SH, V, L) (fun o h' => o = some (.int res.1) ∧ h' = (SH, res.2, L)) := by
  refine xRuns_of (by decide) (Nat.le_of_ble_eq_true rfl) ?_
  unfold f_Md_end at h
  show X M_Md_end (xRm (2) M_Md_end) (xZ M_Md_end (fun o h' => o = some (.int res.1) ∧ h' = (SH, res.2, L))) SH V L 0 0 0 [(0, .ref 65), (1, .int a1)] []
  refine x_iload_n 1 d_Md_end_0 rfl rfl ?_
  refine x_iconst 0 d_Md_end_1 (by decide) ?_
  refine x_aload_n 0 d_Md_end_2 rfl rfl ?_
  refine x_getI f_Md_107 sh_65 rfl d_Md_end_3 ?_
  refine x_callS0 e_Md_89 (t_Md_in a1 0 (V 65 3) V L _ rfl) rfl rfl rfl (Nat.le_of_ble_eq_true rfl) (xfit_of (by omega) (Nat.le_of_ble_eq_true rfl)) (Nat.zero_le _) (Nat.zero_le _) d_Md_end_6 ?_
  refine x_if_ne 14 d_Md_end_9 (by decide) (fun c2 => ?_) (fun c2 => ?_)
  · replace h := xpos c2 h
    refine x_aload_n 0 d_Md_end_14 rfl rfl ?_
    refine x_iload_n 1 d_Md_end_15 rfl rfl ?_
    refine x_putI f_Md_107 sh_65 rfl rfl rfl d_Md_end_16 ?_
    refine x_iload_n 1 d_Md_end_19 rfl rfl ?_
    obtain rfl := h
    exact x_ireturn rfl d_Md_end_20 (Nat.le_refl _) (Nat.le_refl _) ⟨rfl, rfl⟩
  · replace h := xneg c2 h
    refine x_iconst (-1) d_Md_end_12 (by decide) ?_
    obtain rfl := h
    exact x_ireturn rfl d_Md_end_13 (Nat.le_refl _) (Nat.le_refl _) ⟨rfl, rfl⟩
-- Md_isLetter
def f_Md_isLetter (a0 : Int32) : Int32 := (if ¬ (f_Md_in a0 97 122) = 0 then 1 else (if (f_Md_in a0 65 90) = 0 then 0 else 1))
theorem t_Md_isLetter (a0 : Int32) (V : xV) (L : xL) (res : Int32) (h : f_Md_isLetter a0 = res) : xRuns (2) M_Md_isLetter [.int a0] (SH, V, L) (fun o h' => o = some (.int res) ∧ h' = (SH, V, L)) := by
  refine xRuns_of (by decide) (Nat.le_of_ble_eq_true rfl) ?_
  unfold f_Md_isLetter at h
  show X M_Md_isLetter (xRm (2) M_Md_isLetter) (xZ M_Md_isLetter (fun o h' => o = some (.int res) ∧ h' = (SH, V, L))) SH V L 0 0 0 [(0, .int a0)] []
  refine x_iload_n 0 d_Md_isLetter_0 rfl rfl ?_
  refine x_bipush 97 d_Md_isLetter_1 (by decide) ?_
  refine x_bipush 122 d_Md_isLetter_3 (by decide) ?_
  refine x_callS0 e_Md_89 (t_Md_in a0 97 122 V L _ rfl) rfl rfl rfl (Nat.le_of_ble_eq_true rfl) (xfit_of (by omega) (Nat.le_of_ble_eq_true rfl)) (Nat.zero_le _) (Nat.zero_le _) d_Md_isLetter_5 ?_
  refine x_if_ne 22 d_Md_isLetter_8 (by decide) (fun c2 => ?_) (fun c2 => ?_)
  · replace h := xpos c2 h
    refine x_iconst 1 d_Md_isLetter_22 (by decide) ?_
    refine x_goto 27 d_Md_isLetter_23 (by decide) ?_
    obtain rfl := h
    exact x_zreturn rfl rfl d_Md_isLetter_27 (Nat.le_refl _) (Nat.le_refl _) ⟨rfl, rfl⟩
  · replace h := xneg c2 h
    refine x_iload_n 0 d_Md_isLetter_11 rfl rfl ?_
    refine x_bipush 65 d_Md_isLetter_12 (by decide) ?_
    refine x_bipush 90 d_Md_isLetter_14 (by decide) ?_
    refine x_callS0 e_Md_89 (t_Md_in a0 65 90 V L _ rfl) rfl rfl rfl (Nat.le_of_ble_eq_true rfl) (xfit_of (by omega) (Nat.le_of_ble_eq_true rfl)) (Nat.zero_le _) (Nat.zero_le _) d_Md_isLetter_16 ?_
    refine x_if_eq 26 d_Md_isLetter_19 (by decide) (fun c4 => ?_) (fun c4 => ?_)
    · replace h := xpos c4 h
      refine x_iconst 0 d_Md_isLetter_26 (by decide) ?_
      obtain rfl := h
      exact x_zreturn rfl rfl d_Md_isLetter_27 (Nat.le_refl _) (Nat.le_refl _) ⟨rfl, rfl⟩
    · replace h := xneg c4 h
      refine x_iconst 1 d_Md_isLetter_22 (by decide) ?_
      refine x_goto 27 d_Md_isLetter_23 (by decide) ?_
      obtain rfl := h
      exact x_zreturn rfl rfl d_Md_isLetter_27 (Nat.le_refl _) (Nat.le_refl _) ⟨rfl, rfl⟩
-- Md_wordOf
def f_Md_wordOf (a0 : Int64) : Int32 := (if ¬ (lg_cmp a0 3815856806836) = 0 then (if ¬ (lg_cmp a0 9632115) = 0 then (if ¬ (lg_cmp a0 10361454) = 0 then (if ¬ (lg_cmp a0 10132389) = 0 then (if ¬ (lg_cmp a0 36251523180) = 0 then (if ¬ (lg_cmp a0 13826860) = 0 then (if ¬ (lg_cmp a0 3058) = 0 then (if ¬ (lg_cmp a0 138148) = 0 then (if ¬ (lg_cmp a0 191476) = 0 then (if ¬ (lg_cmp a0 149625) = 0 then (if ¬ (lg_cmp a0 214593589143781) = 0 then (if ¬ (lg_cmp a0 11672820) = 0 then (if ¬ (lg_cmp a0 13523310) = 0 then (if ¬ (lg_cmp a0 211705) = 0 then (if ¬ (lg_cmp a0 39284844901) = 0 then (if ¬ (lg_cmp a0 885659941) = 0 then (if ¬ (lg_cmp a0 10115186) = 0 then (if ¬ (lg_cmp a0 137460) = 0 then (if ¬ (lg_cmp a0 227700) = 0 then (if ¬ (lg_cmp a0 10624307) = 0 then (if ¬ (lg_cmp a0 11967397) = 0 then (if ¬ (lg_cmp a0 51348921523) = 0 then (-1) else 21) else 20) else 19) else 18) else 17) else 16) else 15) else 14) else 13) else 12) else 11) else 10) else 9) else 8) else 7) else 6) else 5) else 4) else 3) else 2) else 1) else 0)
theorem t_Md_wordOf (a0 : Int64) (V : xV) (L : xL) (res : Int32) (h : f_Md_wordOf a0 = res) : xRuns (1) M_Md_wordOf [.long a0] (SH, V, L) (fun o h' => o = some (.int res) ∧ h' = (SH, V, L)) := by
  refine xRuns_of (by decide) (Nat.le_of_ble_eq_true rfl) ?_
  unfold f_Md_wordOf at h
  show X M_Md_wordOf (xRm (1) M_Md_wordOf) (xZ M_Md_wordOf (fun o h' => o = some (.int res) ∧ h' = (SH, V, L))) SH V L 0 0 0 [(0, .long a0)] []
  refine x_lload_n 0 d_Md_wordOf_0 rfl rfl ?_
  refine x_ldc2 c_Md_114 d_Md_wordOf_1 ?_
  refine x_lcmp d_Md_wordOf_4 ?_
  refine x_if_ne 10 d_Md_wordOf_5 (by decide) (fun c1 => ?_) (fun c1 => ?_)
  · replace h := xpos c1 h
    refine x_lload_n 0 d_Md_wordOf_10 rfl rfl ?_
    refine x_ldc2 c_Md_116 d_Md_wordOf_11 ?_
    refine x_lcmp d_Md_wordOf_14 ?_
    refine x_if_ne 20 d_Md_wordOf_15 (by decide) (fun c2 => ?_) (fun c2 => ?_)
    · replace h := xpos c2 h
      refine x_lload_n 0 d_Md_wordOf_20 rfl rfl ?_
      refine x_ldc2 c_Md_118 d_Md_wordOf_21 ?_
      refine x_lcmp d_Md_wordOf_24 ?_
      refine x_if_ne 30 d_Md_wordOf_25 (by decide) (fun c3 => ?_) (fun c3 => ?_)
      · replace h := xpos c3 h
        refine x_lload_n 0 d_Md_wordOf_30 rfl rfl ?_
        refine x_ldc2 c_Md_120 d_Md_wordOf_31 ?_
        refine x_lcmp d_Md_wordOf_34 ?_
        refine x_if_ne 40 d_Md_wordOf_35 (by decide) (fun c4 => ?_) (fun c4 => ?_)
        · replace h := xpos c4 h
          refine x_lload_n 0 d_Md_wordOf_40 rfl rfl ?_
          refine x_ldc2 c_Md_122 d_Md_wordOf_41 ?_
          refine x_lcmp d_Md_wordOf_44 ?_
          refine x_if_ne 50 d_Md_wordOf_45 (by decide) (fun c5 => ?_) (fun c5 => ?_)
          · replace h := xpos c5 h
            refine x_lload_n 0 d_Md_wordOf_50 rfl rfl ?_
            refine x_ldc2 c_Md_124 d_Md_wordOf_51 ?_
            refine x_lcmp d_Md_wordOf_54 ?_
            refine x_if_ne 60 d_Md_wordOf_55 (by decide) (fun c6 => ?_) (fun c6 => ?_)
            · replace h := xpos c6 h
              refine x_lload_n 0 d_Md_wordOf_60 rfl rfl ?_
              refine x_ldc2 c_Md_126 d_Md_wordOf_61 ?_
              refine x_lcmp d_Md_wordOf_64 ?_
              refine x_if_ne 71 d_Md_wordOf_65 (by decide) (fun c7 => ?_) (fun c7 => ?_)
              · replace h := xpos c7 h
                refine x_lload_n 0 d_Md_wordOf_71 rfl rfl ?_
                refine x_ldc2 c_Md_128 d_Md_wordOf_72 ?_
                refine x_lcmp d_Md_wordOf_75 ?_
                refine x_if_ne 82 d_Md_wordOf_76 (by decide) (fun c8 => ?_) (fun c8 => ?_)
                · replace h := xpos c8 h
                  refine x_lload_n 0 d_Md_wordOf_82 rfl rfl ?_
                  refine x_ldc2 c_Md_130 d_Md_wordOf_83 ?_
                  refine x_lcmp d_Md_wordOf_86 ?_
                  refine x_if_ne 93 d_Md_wordOf_87 (by decide) (fun c9 => ?_) (fun c9 => ?_)
                  · replace h := xpos c9 h
                    refine x_lload_n 0 d_Md_wordOf_93 rfl rfl ?_
                    refine x_ldc2 c_Md_132 d_Md_wordOf_94 ?_
                    refine x_lcmp d_Md_wordOf_97 ?_
                    refine x_if_ne 104 d_Md_wordOf_98 (by decide) (fun c10 => ?_) (fun c10 => ?_)
                    · replace h := xpos c10 h
                      refine x_lload_n 0 d_Md_wordOf_104 rfl rfl ?_
                      refine x_ldc2 c_Md_134 d_Md_wordOf_105 ?_
                      refine x_lcmp d_Md_wordOf_108 ?_
                      refine x_if_ne 115 d_Md_wordOf_109 (by decide) (fun c11 => ?_) (fun c11 => ?_)
                      · replace h := xpos c11 h
                        refine x_lload_n 0 d_Md_wordOf_115 rfl rfl ?_
                        refine x_ldc2 c_Md_136 d_Md_wordOf_116 ?_
                        refine x_lcmp d_Md_wordOf_119 ?_
                        refine x_if_ne 126 d_Md_wordOf_120 (by decide) (fun c12 => ?_) (fun c12 => ?_)
                        · replace h := xpos c12 h
                          refine x_lload_n 0 d_Md_wordOf_126 rfl rfl ?_
                          refine x_ldc2 c_Md_138 d_Md_wordOf_127 ?_
                          refine x_lcmp d_Md_wordOf_130 ?_
                          refine x_if_ne 137 d_Md_wordOf_131 (by decide) (fun c13 => ?_) (fun c13 => ?_)
                          · replace h := xpos c13 h
                            refine x_lload_n 0 d_Md_wordOf_137 rfl rfl ?_
                            refine x_ldc2 c_Md_140 d_Md_wordOf_138 ?_
                            refine x_lcmp d_Md_wordOf_141 ?_
                            refine x_if_ne 148 d_Md_wordOf_142 (by decide) (fun c14 => ?_) (fun c14 => ?_)
                            · replace h := xpos c14 h
                              refine x_lload_n 0 d_Md_wordOf_148 rfl rfl ?_
                              refine x_ldc2 c_Md_142 d_Md_wordOf_149 ?_
                              refine x_lcmp d_Md_wordOf_152 ?_
                              refine x_if_ne 159 d_Md_wordOf_153 (by decide) (fun c15 => ?_) (fun c15 => ?_)
                              · replace h := xpos c15 h
                                refine x_lload_n 0 d_Md_wordOf_159 rfl rfl ?_
                                refine x_ldc2 c_Md_144 d_Md_wordOf_160 ?_
                                refine x_lcmp d_Md_wordOf_163 ?_
                                refine x_if_ne 170 d_Md_wordOf_164 (by decide) (fun c16 => ?_) (fun c16 => ?_)
                                · replace h := xpos c16 h
                                  refine x_lload_n 0 d_Md_wordOf_170 rfl rfl ?_
                                  refine x_ldc2 c_Md_146 d_Md_wordOf_171 ?_
                                  refine x_lcmp d_Md_wordOf_174 ?_
                                  refine x_if_ne 181 d_Md_wordOf_175 (by decide) (fun c17 => ?_) (fun c17 => ?_)
                                  · replace h := xpos c17 h
                                    refine x_lload_n 0 d_Md_wordOf_181 rfl rfl ?_
                                    refine x_ldc2 c_Md_148 d_Md_wordOf_182 ?_
                                    refine x_lcmp d_Md_wordOf_185 ?_
                                    refine x_if_ne 192 d_Md_wordOf_186 (by decide) (fun c18 => ?_) (fun c18 => ?_)
                                    · replace h := xpos c18 h
                                      refine x_lload_n 0 d_Md_wordOf_192 rfl rfl ?_
                                      refine x_ldc2 c_Md_150 d_Md_wordOf_193 ?_
                                      refine x_lcmp d_Md_wordOf_196 ?_
                                      refine x_if_ne 203 d_Md_wordOf_197 (by decide) (fun c19 => ?_) (fun c19 => ?_)
                                      · replace h := xpos c19 h
                                        refine x_lload_n 0 d_Md_wordOf_203 rfl rfl ?_
                                        refine x_ldc2 c_Md_152 d_Md_wordOf_204 ?_
                                        refine x_lcmp d_Md_wordOf_207 ?_
                                        refine x_if_ne 214 d_Md_wordOf_208 (by decide) (fun c20 => ?_) (fun c20 => ?_)
                                        · replace h := xpos c20 h
                                          refine x_lload_n 0 d_Md_wordOf_214 rfl rfl ?_
                                          refine x_ldc2 c_Md_154 d_Md_wordOf_215 ?_
                                          refine x_lcmp d_Md_wordOf_218 ?_
                                          refine x_if_ne 225 d_Md_wordOf_219 (by decide) (fun c21 => ?_) (fun c21 => ?_)
                                          · replace h := xpos c21 h
                                            refine x_lload_n 0 d_Md_wordOf_225 rfl rfl ?_
                                            refine x_ldc2 c_Md_156 d_Md_wordOf_226 ?_
                                            refine x_lcmp d_Md_wordOf_229 ?_
                                            refine x_if_ne 236 d_Md_wordOf_230 (by decide) (fun c22 => ?_) (fun c22 => ?_)
                                            · replace h := xpos c22 h
                                              refine x_iconst (-1) d_Md_wordOf_236 (by decide) ?_
                                              obtain rfl := h
                                              exact x_ireturn rfl d_Md_wordOf_237 (Nat.le_refl _) (Nat.le_refl _) ⟨rfl, rfl⟩
                                            · replace h := xneg c22 h
                                              refine x_bipush 21 d_Md_wordOf_233 (by decide) ?_
                                              obtain rfl := h
                                              exact x_ireturn rfl d_Md_wordOf_235 (Nat.le_refl _) (Nat.le_refl _) ⟨rfl, rfl⟩
                                          · replace h := xneg c21 h
                                            refine x_bipush 20 d_Md_wordOf_222 (by decide) ?_
                                            obtain rfl := h
                                            exact x_ireturn rfl d_Md_wordOf_224 (Nat.le_refl _) (Nat.le_refl _) ⟨rfl, rfl⟩
                                        · replace h := xneg c20 h
                                          refine x_bipush 19 d_Md_wordOf_211 (by decide) ?_
                                          obtain rfl := h
                                          exact x_ireturn rfl d_Md_wordOf_213 (Nat.le_refl _) (Nat.le_refl _) ⟨rfl, rfl⟩
                                      · replace h := xneg c19 h
                                        refine x_bipush 18 d_Md_wordOf_200 (by decide) ?_
                                        obtain rfl := h
                                        exact x_ireturn rfl d_Md_wordOf_202 (Nat.le_refl _) (Nat.le_refl _) ⟨rfl, rfl⟩
                                    · replace h := xneg c18 h
                                      refine x_bipush 17 d_Md_wordOf_189 (by decide) ?_
                                      obtain rfl := h
                                      exact x_ireturn rfl d_Md_wordOf_191 (Nat.le_refl _) (Nat.le_refl _) ⟨rfl, rfl⟩
                                  · replace h := xneg c17 h
                                    refine x_bipush 16 d_Md_wordOf_178 (by decide) ?_
                                    obtain rfl := h
                                    exact x_ireturn rfl d_Md_wordOf_180 (Nat.le_refl _) (Nat.le_refl _) ⟨rfl, rfl⟩
                                · replace h := xneg c16 h
                                  refine x_bipush 15 d_Md_wordOf_167 (by decide) ?_
                                  obtain rfl := h
                                  exact x_ireturn rfl d_Md_wordOf_169 (Nat.le_refl _) (Nat.le_refl _) ⟨rfl, rfl⟩
                              · replace h := xneg c15 h
                                refine x_bipush 14 d_Md_wordOf_156 (by decide) ?_
                                obtain rfl := h
                                exact x_ireturn rfl d_Md_wordOf_158 (Nat.le_refl _) (Nat.le_refl _) ⟨rfl, rfl⟩
                            · replace h := xneg c14 h
                              refine x_bipush 13 d_Md_wordOf_145 (by decide) ?_
                              obtain rfl := h
                              exact x_ireturn rfl d_Md_wordOf_147 (Nat.le_refl _) (Nat.le_refl _) ⟨rfl, rfl⟩
                          · replace h := xneg c13 h
                            refine x_bipush 12 d_Md_wordOf_134 (by decide) ?_
                            obtain rfl := h
                            exact x_ireturn rfl d_Md_wordOf_136 (Nat.le_refl _) (Nat.le_refl _) ⟨rfl, rfl⟩
                        · replace h := xneg c12 h
                          refine x_bipush 11 d_Md_wordOf_123 (by decide) ?_
                          obtain rfl := h
                          exact x_ireturn rfl d_Md_wordOf_125 (Nat.le_refl _) (Nat.le_refl _) ⟨rfl, rfl⟩
                      · replace h := xneg c11 h
                        refine x_bipush 10 d_Md_wordOf_112 (by decide) ?_
                        obtain rfl := h
                        exact x_ireturn rfl d_Md_wordOf_114 (Nat.le_refl _) (Nat.le_refl _) ⟨rfl, rfl⟩
                    · replace h := xneg c10 h
                      refine x_bipush 9 d_Md_wordOf_101 (by decide) ?_
                      obtain rfl := h
                      exact x_ireturn rfl d_Md_wordOf_103 (Nat.le_refl _) (Nat.le_refl _) ⟨rfl, rfl⟩
                  · replace h := xneg c9 h
                    refine x_bipush 8 d_Md_wordOf_90 (by decide) ?_
                    obtain rfl := h
                    exact x_ireturn rfl d_Md_wordOf_92 (Nat.le_refl _) (Nat.le_refl _) ⟨rfl, rfl⟩
                · replace h := xneg c8 h
                  refine x_bipush 7 d_Md_wordOf_79 (by decide) ?_
                  obtain rfl := h
                  exact x_ireturn rfl d_Md_wordOf_81 (Nat.le_refl _) (Nat.le_refl _) ⟨rfl, rfl⟩
              · replace h := xneg c7 h
                refine x_bipush 6 d_Md_wordOf_68 (by decide) ?_
                obtain rfl := h
                exact x_ireturn rfl d_Md_wordOf_70 (Nat.le_refl _) (Nat.le_refl _) ⟨rfl, rfl⟩
            · replace h := xneg c6 h
              refine x_iconst 5 d_Md_wordOf_58 (by decide) ?_
              obtain rfl := h
              exact x_ireturn rfl d_Md_wordOf_59 (Nat.le_refl _) (Nat.le_refl _) ⟨rfl, rfl⟩
          · replace h := xneg c5 h
            refine x_iconst 4 d_Md_wordOf_48 (by decide) ?_
            obtain rfl := h
            exact x_ireturn rfl d_Md_wordOf_49 (Nat.le_refl _) (Nat.le_refl _) ⟨rfl, rfl⟩
        · replace h := xneg c4 h
          refine x_iconst 3 d_Md_wordOf_38 (by decide) ?_
          obtain rfl := h
          exact x_ireturn rfl d_Md_wordOf_39 (Nat.le_refl _) (Nat.le_refl _) ⟨rfl, rfl⟩
      · replace h := xneg c3 h
        refine x_iconst 2 d_Md_wordOf_28 (by decide) ?_
        obtain rfl := h
        exact x_ireturn rfl d_Md_wordOf_29 (Nat.le_refl _) (Nat.le_refl _) ⟨rfl, rfl⟩
    · replace h := xneg c2 h
      refine x_iconst 1 d_Md_wordOf_18 (by decide) ?_
      obtain rfl := h
      exact x_ireturn rfl d_Md_wordOf_19 (Nat.le_refl _) (Nat.le_refl _) ⟨rfl, rfl⟩
  · replace h := xneg c1 h
    refine x_iconst 0 d_Md_wordOf_8 (by decide) ?_
    obtain rfl := h
    exact x_ireturn rfl d_Md_wordOf_9 (Nat.le_refl _) (Nat.le_refl _) ⟨rfl, rfl⟩
-- Md_next
def b_Md_next_385 (v1 : Int32) (V : xV) : Option (xV) := (if (V 65 11) ≤ (V 65 12) then some V else (if xI (V 65 12) 300 = true then (if ¬ (V 68 (V 65 12).toNatClampNeg) = 61 then some V else (if ¬ v1 = 60 then some (x2 (x2 V 65 15 301) 65 12 (((x2 V 65 15 301) 65 12) + 1)) else some (x2 (x2 V 65 15 300) 65 12 (((x2 V 65 15 300) 65 12) + 1)))) else none))
theorem tb_Md_next_385 {L : xL} (res : xV)  (v1 : Int32) (V : xV) (h : b_Md_next_385 v1 V = some res) : X M_Md_next (xRm (3) M_Md_next) (xZ M_Md_next (fun o h' => o = none ∧ h' = (SH, res, L))) SH V L 0 0 385 [(0, .ref 65), (1, .int v1)] [] := by
  unfold b_Md_next_385 at h
  refine x_aload_n 0 d_Md_next_385 rfl rfl ?_
  refine x_getI f_Md_158 sh_65 rfl d_Md_next_386 ?_
  refine x_aload_n 0 d_Md_next_389 rfl rfl ?_
  refine x_getI f_Md_161 sh_65 rfl d_Md_next_390 ?_
  refine x_icmp_ge 439 d_Md_next_393 (by decide) (fun c35 => ?_) (fun c35 => ?_)
  · replace h := xpos c35 h
    obtain rfl := Option.some.inj h
    exact x_return rfl d_Md_next_439 (Nat.le_refl _) (Nat.le_refl _) ⟨rfl, rfl⟩
  · replace h := xneg c35 h
    refine x_aload_n 0 d_Md_next_396 rfl rfl ?_
    refine x_getP (q := 68) f_Md_16 sh_65 rfl d_Md_next_397 ?_
    refine x_aload_n 0 d_Md_next_400 rfl rfl ?_
    refine x_getI f_Md_158 sh_65 rfl d_Md_next_401 ?_
    obtain ⟨c36, h⟩ := xguard h
    refine x_baload sh_68 c36 d_Md_next_404 ?_
    refine x_bipush 61 d_Md_next_405 (by decide) ?_
    refine x_icmp_ne 439 d_Md_next_407 (by decide) (fun c37 => ?_) (fun c37 => ?_)
    · replace h := xpos c37 h
      obtain rfl := Option.some.inj h
      exact x_return rfl d_Md_next_439 (Nat.le_refl _) (Nat.le_refl _) ⟨rfl, rfl⟩
    · replace h := xneg c37 h
      refine x_aload_n 0 d_Md_next_410 rfl rfl ?_
      refine x_iload_n 1 d_Md_next_411 rfl rfl ?_
      refine x_bipush 60 d_Md_next_412 (by decide) ?_
      refine x_icmp_ne 423 d_Md_next_414 (by decide) (fun c38 => ?_) (fun c38 => ?_)
      · replace h := xpos c38 h
        refine x_sipush 301 d_Md_next_423 (by decide) ?_
        refine x_putI f_Md_179 sh_65 rfl rfl rfl d_Md_next_426 ?_
        refine x_aload_n 0 d_Md_next_429 rfl rfl ?_
        refine x_dup d_Md_next_430 rfl ?_
        refine x_getI f_Md_158 sh_65 rfl d_Md_next_431 ?_
        refine x_iconst 1 d_Md_next_434 (by decide) ?_
        refine x_iadd d_Md_next_435 ?_
        refine x_putI f_Md_158 sh_65 rfl rfl rfl d_Md_next_436 ?_
        obtain rfl := Option.some.inj h
        exact x_return rfl d_Md_next_439 (Nat.le_refl _) (Nat.le_refl _) ⟨rfl, rfl⟩
      · replace h := xneg c38 h
        refine x_sipush 300 d_Md_next_417 (by decide) ?_
        refine x_goto 426 d_Md_next_420 (by decide) ?_
        refine x_putI f_Md_179 sh_65 rfl rfl rfl d_Md_next_426 ?_
        refine x_aload_n 0 d_Md_next_429 rfl rfl ?_
        refine x_dup d_Md_next_430 rfl ?_
        refine x_getI f_Md_158 sh_65 rfl d_Md_next_431 ?_
        refine x_iconst 1 d_Md_next_434 (by decide) ?_
        refine x_iadd d_Md_next_435 ?_
        refine x_putI f_Md_158 sh_65 rfl rfl rfl d_Md_next_436 ?_
        obtain rfl := Option.some.inj h
        exact x_return rfl d_Md_next_439 (Nat.le_refl _) (Nat.le_refl _) ⟨rfl, rfl⟩
def b_Md_next_370 (v1 : Int32) (s0 : Int32) (V : xV) : Option (xV) := (if v1 = 60 then b_Md_next_385 v1 (x2 V 65 14 s0) else (if ¬ v1 = 62 then some (x2 V 65 14 s0) else b_Md_next_385 v1 (x2 V 65 14 s0)))
theorem tb_Md_next_370 {L : xL} (res : xV)  (v1 : Int32) (s0 : Int32) (V : xV) (h : b_Md_next_370 v1 s0 V = some res) : X M_Md_next (xRm (3) M_Md_next) (xZ M_Md_next (fun o h' => o = none ∧ h' = (SH, res, L))) SH V L 0 0 370 [(0, .ref 65), (1, .int v1)] [.int s0, .ref 65] := by
  unfold b_Md_next_370 at h
  refine x_putI f_Md_167 sh_65 rfl rfl rfl d_Md_next_370 ?_
  refine x_iload_n 1 d_Md_next_373 rfl rfl ?_
  refine x_bipush 60 d_Md_next_374 (by decide) ?_
  refine x_icmp_eq 385 d_Md_next_376 (by decide) (fun c33 => ?_) (fun c33 => ?_)
  · replace h := xpos c33 h
    exact tb_Md_next_385 (L := L) res v1 (x2 V 65 14 s0) h
  · replace h := xneg c33 h
    refine x_iload_n 1 d_Md_next_379 rfl rfl ?_
    refine x_bipush 62 d_Md_next_380 (by decide) ?_
    refine x_icmp_ne 439 d_Md_next_382 (by decide) (fun c34 => ?_) (fun c34 => ?_)
    · replace h := xpos c34 h
      obtain rfl := Option.some.inj h
      exact x_return rfl d_Md_next_439 (Nat.le_refl _) (Nat.le_refl _) ⟨rfl, rfl⟩
    · replace h := xneg c34 h
      exact tb_Md_next_385 (L := L) res v1 (x2 V 65 14 s0) h
def b_Md_next_232 (k232 : xV → Option (xV)) (V : xV) : Option (xV) := (if (V 65 11) ≤ (V 65 12) then some V else (if xI (V 65 12) 300 = true then (if (f_Md_in (V 68 (V 65 12).toNatClampNeg) 48 57) = 0 then some V else (if (V 65 15) ≤ 99999 then (if xI (V 65 12) 300 = true then k232 (x2 (x2 V 65 15 (((10 * (V 65 15)) + (V 68 (V 65 12).toNatClampNeg)) - 48)) 65 12 (((x2 V 65 15 (((10 * (V 65 15)) + (V 68 (V 65 12).toNatClampNeg)) - 48)) 65 12) + 1)) else none) else k232 (x2 (x2 V 65 15 (V 65 15)) 65 12 (((x2 V 65 15 (V 65 15)) 65 12) + 1)))) else none))
theorem tb_Md_next_232 {L : xL} (k232 : xV → Option (xV)) (res : xV) (hk232 : ∀ (V : xV), k232 V = some res → X M_Md_next (xRm (3) M_Md_next) (xZ M_Md_next (fun o h' => o = none ∧ h' = (SH, res, L))) SH V L 0 0 232 [(0, .ref 65)] []) (V : xV) (h : b_Md_next_232 k232 V = some res) : X M_Md_next (xRm (3) M_Md_next) (xZ M_Md_next (fun o h' => o = none ∧ h' = (SH, res, L))) SH V L 0 0 232 [(0, .ref 65)] [] := by
  unfold b_Md_next_232 at h
  refine x_aload_n 0 d_Md_next_232 rfl rfl ?_
  refine x_getI f_Md_158 sh_65 rfl d_Md_next_233 ?_
  refine x_aload_n 0 d_Md_next_236 rfl rfl ?_
  refine x_getI f_Md_161 sh_65 rfl d_Md_next_237 ?_
  refine x_icmp_ge 439 d_Md_next_240 (by decide) (fun c27 => ?_) (fun c27 => ?_)
  · replace h := xpos c27 h
    obtain rfl := Option.some.inj h
    exact x_return rfl d_Md_next_439 (Nat.le_refl _) (Nat.le_refl _) ⟨rfl, rfl⟩
  · replace h := xneg c27 h
    refine x_aload_n 0 d_Md_next_243 rfl rfl ?_
    refine x_getP (q := 68) f_Md_16 sh_65 rfl d_Md_next_244 ?_
    refine x_aload_n 0 d_Md_next_247 rfl rfl ?_
    refine x_getI f_Md_158 sh_65 rfl d_Md_next_248 ?_
    obtain ⟨c28, h⟩ := xguard h
    refine x_baload sh_68 c28 d_Md_next_251 ?_
    refine x_bipush 48 d_Md_next_252 (by decide) ?_
    refine x_bipush 57 d_Md_next_254 (by decide) ?_
    refine x_callS0 e_Md_89 (t_Md_in (V 68 (V 65 12).toNatClampNeg) 48 57 V L _ rfl) rfl rfl rfl (Nat.le_of_ble_eq_true rfl) (xfit_of (by omega) (Nat.le_of_ble_eq_true rfl)) (Nat.zero_le _) (Nat.zero_le _) d_Md_next_256 ?_
    refine x_if_eq 439 d_Md_next_259 (by decide) (fun c30 => ?_) (fun c30 => ?_)
    · replace h := xpos c30 h
      obtain rfl := Option.some.inj h
      exact x_return rfl d_Md_next_439 (Nat.le_refl _) (Nat.le_refl _) ⟨rfl, rfl⟩
    · replace h := xneg c30 h
      refine x_aload_n 0 d_Md_next_262 rfl rfl ?_
      refine x_aload_n 0 d_Md_next_263 rfl rfl ?_
      refine x_getI f_Md_179 sh_65 rfl d_Md_next_264 ?_
      refine x_ldc c_Md_182 d_Md_next_267 ?_
      refine x_icmp_le 279 d_Md_next_269 (by decide) (fun c31 => ?_) (fun c31 => ?_)
      · replace h := xpos c31 h
        refine x_bipush 10 d_Md_next_279 (by decide) ?_
        refine x_aload_n 0 d_Md_next_281 rfl rfl ?_
        refine x_getI f_Md_179 sh_65 rfl d_Md_next_282 ?_
        refine x_imul d_Md_next_285 ?_
        refine x_aload_n 0 d_Md_next_286 rfl rfl ?_
        refine x_getP (q := 68) f_Md_16 sh_65 rfl d_Md_next_287 ?_
        refine x_aload_n 0 d_Md_next_290 rfl rfl ?_
        refine x_getI f_Md_158 sh_65 rfl d_Md_next_291 ?_
        obtain ⟨c32, h⟩ := xguard h
        refine x_baload sh_68 c32 d_Md_next_294 ?_
        refine x_iadd d_Md_next_295 ?_
        refine x_bipush 48 d_Md_next_296 (by decide) ?_
        refine x_isub d_Md_next_298 ?_
        refine x_putI f_Md_179 sh_65 rfl rfl rfl d_Md_next_299 ?_
        refine x_aload_n 0 d_Md_next_302 rfl rfl ?_
        refine x_dup d_Md_next_303 rfl ?_
        refine x_getI f_Md_158 sh_65 rfl d_Md_next_304 ?_
        refine x_iconst 1 d_Md_next_307 (by decide) ?_
        refine x_iadd d_Md_next_308 ?_
        refine x_putI f_Md_158 sh_65 rfl rfl rfl d_Md_next_309 ?_
        refine x_goto 232 d_Md_next_312 (by decide) ?_
        exact hk232 (x2 (x2 V 65 15 (((10 * (V 65 15)) + (V 68 (V 65 12).toNatClampNeg)) - 48)) 65 12 (((x2 V 65 15 (((10 * (V 65 15)) + (V 68 (V 65 12).toNatClampNeg)) - 48)) 65 12) + 1)) h
      · replace h := xneg c31 h
        refine x_aload_n 0 d_Md_next_272 rfl rfl ?_
        refine x_getI f_Md_179 sh_65 rfl d_Md_next_273 ?_
        refine x_goto 299 d_Md_next_276 (by decide) ?_
        refine x_putI f_Md_179 sh_65 rfl rfl rfl d_Md_next_299 ?_
        refine x_aload_n 0 d_Md_next_302 rfl rfl ?_
        refine x_dup d_Md_next_303 rfl ?_
        refine x_getI f_Md_158 sh_65 rfl d_Md_next_304 ?_
        refine x_iconst 1 d_Md_next_307 (by decide) ?_
        refine x_iadd d_Md_next_308 ?_
        refine x_putI f_Md_158 sh_65 rfl rfl rfl d_Md_next_309 ?_
        refine x_goto 232 d_Md_next_312 (by decide) ?_
        exact hk232 (x2 (x2 V 65 15 (V 65 15)) 65 12 (((x2 V 65 15 (V 65 15)) 65 12) + 1)) h
def g_Md_next_232  : Nat → xV → Option (xV)
  | 0, _ => none
  | n + 1, V => b_Md_next_232 (g_Md_next_232  n) V
theorem tg_Md_next_232 {L : xL} (res : xV)  : ∀ (n : Nat) (V : xV), g_Md_next_232  n V = some res → X M_Md_next (xRm (3) M_Md_next) (xZ M_Md_next (fun o h' => o = none ∧ h' = (SH, res, L))) SH V L 0 0 232 [(0, .ref 65)] []
  | 0, _, h => by cases h
  | n + 1, V, h => tb_Md_next_232 (L := L) (g_Md_next_232  n) res (tg_Md_next_232 (L := L) res n) V h
def b_Md_next_189 (s0 : Int32) (V : xV) : Option (xV) := (if 0 ≤ ((x2 V 65 15 s0) 65 15) then some (x2 (x2 V 65 15 s0) 65 14 1) else some (x2 (x2 V 65 15 s0) 65 14 4))
theorem tb_Md_next_189 {L : xL} (res : xV)  (s0 : Int32) (V : xV) (h : b_Md_next_189 s0 V = some res) : X M_Md_next (xRm (3) M_Md_next) (xZ M_Md_next (fun o h' => o = none ∧ h' = (SH, res, L))) SH V L 0 0 189 [(0, .ref 65)] [.int s0, .ref 65] := by
  unfold b_Md_next_189 at h
  refine x_putI f_Md_179 sh_65 rfl rfl rfl d_Md_next_189 ?_
  refine x_aload_n 0 d_Md_next_192 rfl rfl ?_
  refine x_aload_n 0 d_Md_next_193 rfl rfl ?_
  refine x_getI f_Md_179 sh_65 rfl d_Md_next_194 ?_
  refine x_if_ge 204 d_Md_next_197 (by decide) (fun c26 => ?_) (fun c26 => ?_)
  · replace h := xpos c26 h
    refine x_iconst 1 d_Md_next_204 (by decide) ?_
    refine x_putI f_Md_167 sh_65 rfl rfl rfl d_Md_next_205 ?_
    refine x_goto 439 d_Md_next_208 (by decide) ?_
    obtain rfl := Option.some.inj h
    exact x_return rfl d_Md_next_439 (Nat.le_refl _) (Nat.le_refl _) ⟨rfl, rfl⟩
  · replace h := xneg c26 h
    refine x_iconst 4 d_Md_next_200 (by decide) ?_
    refine x_goto 205 d_Md_next_201 (by decide) ?_
    refine x_putI f_Md_167 sh_65 rfl rfl rfl d_Md_next_205 ?_
    refine x_goto 439 d_Md_next_208 (by decide) ?_
    obtain rfl := Option.some.inj h
    exact x_return rfl d_Md_next_439 (Nat.le_refl _) (Nat.le_refl _) ⟨rfl, rfl⟩
def b_Md_next_173 (v2 : Int64) (v4 : Int32) (V : xV) : Option (xV) := (if v4 ≤ 8 then b_Md_next_189 (f_Md_wordOf v2) V else b_Md_next_189 (-1) V)
theorem tb_Md_next_173 {L : xL} (res : xV)  (v2 : Int64) (v4 : Int32) (V : xV) (h : b_Md_next_173 v2 v4 V = some res) : X M_Md_next (xRm (3) M_Md_next) (xZ M_Md_next (fun o h' => o = none ∧ h' = (SH, res, L))) SH V L 0 0 173 [(0, .ref 65), (2, .long v2), (4, .int v4)] [] := by
  unfold b_Md_next_173 at h
  refine x_aload_n 0 d_Md_next_173 rfl rfl ?_
  refine x_iload 2 d_Md_next_174 rfl ?_
  refine x_bipush 8 d_Md_next_176 (by decide) ?_
  refine x_icmp_le 185 d_Md_next_178 (by decide) (fun c24 => ?_) (fun c24 => ?_)
  · replace h := xpos c24 h
    refine x_lload_n 1 d_Md_next_185 rfl rfl ?_
    refine x_callS0 e_Md_175 (t_Md_wordOf v2 V L _ rfl) rfl rfl rfl (Nat.le_of_ble_eq_true rfl) (xfit_of (by omega) (Nat.le_of_ble_eq_true rfl)) (Nat.zero_le _) (Nat.zero_le _) d_Md_next_186 ?_
    refine x_pick [0] rfl ?_
    exact tb_Md_next_189 (L := L) res (f_Md_wordOf v2) V h
  · replace h := xneg c24 h
    refine x_iconst (-1) d_Md_next_181 (by decide) ?_
    refine x_goto 189 d_Md_next_182 (by decide) ?_
    refine x_pick [0] rfl ?_
    exact tb_Md_next_189 (L := L) res (-1) V h
def b_Md_next_156 (k99 : Int64 → Int32 → xV → Option (xV)) (v4 : Int32) (s0 : Int64) (V : xV) : Option (xV) := k99 s0 (v4 + 1) (x2 V 65 12 ((V 65 12) + 1))
theorem tb_Md_next_156 {L : xL} (k99 : Int64 → Int32 → xV → Option (xV)) (res : xV) (hk99 : ∀ (v2 : Int64) (v4 : Int32) (V : xV), k99 v2 v4 V = some res → X M_Md_next (xRm (3) M_Md_next) (xZ M_Md_next (fun o h' => o = none ∧ h' = (SH, res, L))) SH V L 0 0 99 [(0, .ref 65), (2, .long v2), (4, .int v4)] []) (v4 : Int32) (s0 : Int64) (V : xV) (h : b_Md_next_156 k99 v4 s0 V = some res) : X M_Md_next (xRm (3) M_Md_next) (xZ M_Md_next (fun o h' => o = none ∧ h' = (SH, res, L))) SH V L 0 0 156 [(0, .ref 65), (4, .int v4)] [.long s0] := by
  unfold b_Md_next_156 at h
  refine x_lstore_n [(2, .long s0), (0, .ref 65), (4, .int v4)] d_Md_next_156 rfl (Nat.le_of_ble_eq_true rfl) rfl ?_
  refine x_iinc 2 1 [(4, .int (v4 + 1)), (2, .long s0), (0, .ref 65)] d_Md_next_157 rfl (by decide) (Nat.le_of_ble_eq_true rfl) rfl ?_
  refine x_aload_n 2 d_Md_next_160 rfl rfl ?_
  refine x_dup d_Md_next_161 rfl ?_
  refine x_getI f_Md_158 sh_65 rfl d_Md_next_162 ?_
  refine x_iconst 1 d_Md_next_165 (by decide) ?_
  refine x_iadd d_Md_next_166 ?_
  refine x_putI f_Md_158 sh_65 rfl rfl rfl d_Md_next_167 ?_
  refine x_goto 99 d_Md_next_170 (by decide) ?_
  refine x_pick [2, 1, 0] rfl ?_
  exact hk99 s0 (v4 + 1) (x2 V 65 12 ((V 65 12) + 1)) h
def b_Md_next_99 (k99 : Int64 → Int32 → xV → Option (xV)) (v2 : Int64) (v4 : Int32) (V : xV) : Option (xV) := (if (V 65 11) ≤ (V 65 12) then b_Md_next_173 v2 v4 V else (if xI (V 65 12) 300 = true then (if (f_Md_isLetter (V 68 (V 65 12).toNatClampNeg)) = 0 then b_Md_next_173 v2 v4 V else (if 9 ≤ v4 then b_Md_next_156 k99 v4 v2 V else (if xI (V 65 12) 300 = true then b_Md_next_156 k99 v4 (((64 * v2) + ((V 68 (V 65 12).toNatClampNeg).toInt64)) - 64) V else none))) else none))
theorem tb_Md_next_99 {L : xL} (k99 : Int64 → Int32 → xV → Option (xV)) (res : xV) (hk99 : ∀ (v2 : Int64) (v4 : Int32) (V : xV), k99 v2 v4 V = some res → X M_Md_next (xRm (3) M_Md_next) (xZ M_Md_next (fun o h' => o = none ∧ h' = (SH, res, L))) SH V L 0 0 99 [(0, .ref 65), (2, .long v2), (4, .int v4)] []) (v2 : Int64) (v4 : Int32) (V : xV) (h : b_Md_next_99 k99 v2 v4 V = some res) : X M_Md_next (xRm (3) M_Md_next) (xZ M_Md_next (fun o h' => o = none ∧ h' = (SH, res, L))) SH V L 0 0 99 [(0, .ref 65), (2, .long v2), (4, .int v4)] [] := by
  unfold b_Md_next_99 at h
  refine x_aload_n 0 d_Md_next_99 rfl rfl ?_
  refine x_getI f_Md_158 sh_65 rfl d_Md_next_100 ?_
  refine x_aload_n 0 d_Md_next_103 rfl rfl ?_
  refine x_getI f_Md_161 sh_65 rfl d_Md_next_104 ?_
  refine x_icmp_ge 173 d_Md_next_107 (by decide) (fun c18 => ?_) (fun c18 => ?_)
  · replace h := xpos c18 h
    exact tb_Md_next_173 (L := L) res v2 v4 V h
  · replace h := xneg c18 h
    refine x_aload_n 0 d_Md_next_110 rfl rfl ?_
    refine x_getP (q := 68) f_Md_16 sh_65 rfl d_Md_next_111 ?_
    refine x_aload_n 0 d_Md_next_114 rfl rfl ?_
    refine x_getI f_Md_158 sh_65 rfl d_Md_next_115 ?_
    obtain ⟨c19, h⟩ := xguard h
    refine x_baload sh_68 c19 d_Md_next_118 ?_
    refine x_callS0 e_Md_170 (t_Md_isLetter (V 68 (V 65 12).toNatClampNeg) V L _ rfl) rfl rfl rfl (Nat.le_of_ble_eq_true rfl) (xfit_of (by omega) (Nat.le_of_ble_eq_true rfl)) (Nat.zero_le _) (Nat.zero_le _) d_Md_next_119 ?_
    refine x_if_eq 173 d_Md_next_122 (by decide) (fun c21 => ?_) (fun c21 => ?_)
    · replace h := xpos c21 h
      exact tb_Md_next_173 (L := L) res v2 v4 V h
    · replace h := xneg c21 h
      refine x_iload 2 d_Md_next_125 rfl ?_
      refine x_bipush 9 d_Md_next_127 (by decide) ?_
      refine x_icmp_ge 155 d_Md_next_129 (by decide) (fun c22 => ?_) (fun c22 => ?_)
      · replace h := xpos c22 h
        refine x_lload_n 1 d_Md_next_155 rfl rfl ?_
        refine x_pick [0, 2] rfl ?_
        exact tb_Md_next_156 (L := L) k99 res hk99 v4 v2 V h
      · replace h := xneg c22 h
        refine x_ldc2 c_Md_173 d_Md_next_132 ?_
        refine x_lload_n 1 d_Md_next_135 rfl rfl ?_
        refine x_lmul d_Md_next_136 ?_
        refine x_aload_n 0 d_Md_next_137 rfl rfl ?_
        refine x_getP (q := 68) f_Md_16 sh_65 rfl d_Md_next_138 ?_
        refine x_aload_n 0 d_Md_next_141 rfl rfl ?_
        refine x_getI f_Md_158 sh_65 rfl d_Md_next_142 ?_
        obtain ⟨c23, h⟩ := xguard h
        refine x_baload sh_68 c23 d_Md_next_145 ?_
        refine x_i2l d_Md_next_146 ?_
        refine x_ladd d_Md_next_147 ?_
        refine x_ldc2 c_Md_173 d_Md_next_148 ?_
        refine x_lsub d_Md_next_151 ?_
        refine x_goto 156 d_Md_next_152 (by decide) ?_
        refine x_pick [0, 2] rfl ?_
        exact tb_Md_next_156 (L := L) k99 res hk99 v4 (((64 * v2) + ((V 68 (V 65 12).toNatClampNeg).toInt64)) - 64) V h
def g_Md_next_99  : Nat → Int64 → Int32 → xV → Option (xV)
  | 0, _, _, _ => none
  | n + 1, v2, v4, V => b_Md_next_99 (g_Md_next_99  n) v2 v4 V
theorem tg_Md_next_99 {L : xL} (res : xV)  : ∀ (n : Nat) (v2 : Int64) (v4 : Int32) (V : xV), g_Md_next_99  n v2 v4 V = some res → X M_Md_next (xRm (3) M_Md_next) (xZ M_Md_next (fun o h' => o = none ∧ h' = (SH, res, L))) SH V L 0 0 99 [(0, .ref 65), (2, .long v2), (4, .int v4)] []
  | 0, _, _, _, h => by cases h
  | n + 1, v2, v4, V, h => tb_Md_next_99 (L := L) (g_Md_next_99  n) res (tg_Md_next_99 (L := L) res n) v2 v4 V h
def b_Md_next_52 (V : xV) : Option (xV) := (if ¬ ((x2 V 65 13 (V 65 12)) 65 12) = ((x2 V 65 13 (V 65 12)) 65 11) then (if xI ((x2 V 65 13 (V 65 12)) 65 12) 300 = true then (if (f_Md_isLetter ((x2 V 65 13 (V 65 12)) 68 ((x2 V 65 13 (V 65 12)) 65 12).toNatClampNeg)) = 0 then (if (f_Md_in ((x2 V 65 13 (V 65 12)) 68 ((x2 V 65 13 (V 65 12)) 65 12).toNatClampNeg) 48 57) = 0 then (if ¬ (f_Md_in ((x2 V 65 13 (V 65 12)) 68 ((x2 V 65 13 (V 65 12)) 65 12).toNatClampNeg) 59 62) = 0 then b_Md_next_370 ((x2 V 65 13 (V 65 12)) 68 ((x2 V 65 13 (V 65 12)) 65 12).toNatClampNeg) 3 (x2 (x2 (x2 V 65 13 (V 65 12)) 65 12 (((x2 V 65 13 (V 65 12)) 65 12) + 1)) 65 15 ((x2 V 65 13 (V 65 12)) 68 ((x2 V 65 13 (V 65 12)) 65 12).toNatClampNeg)) else (if ¬ (f_Md_in ((x2 V 65 13 (V 65 12)) 68 ((x2 V 65 13 (V 65 12)) 65 12).toNatClampNeg) 40 45) = 0 then b_Md_next_370 ((x2 V 65 13 (V 65 12)) 68 ((x2 V 65 13 (V 65 12)) 65 12).toNatClampNeg) 3 (x2 (x2 (x2 V 65 13 (V 65 12)) 65 12 (((x2 V 65 13 (V 65 12)) 65 12) + 1)) 65 15 ((x2 V 65 13 (V 65 12)) 68 ((x2 V 65 13 (V 65 12)) 65 12).toNatClampNeg)) else (if ((x2 V 65 13 (V 65 12)) 68 ((x2 V 65 13 (V 65 12)) 65 12).toNatClampNeg) = 47 then b_Md_next_370 ((x2 V 65 13 (V 65 12)) 68 ((x2 V 65 13 (V 65 12)) 65 12).toNatClampNeg) 3 (x2 (x2 (x2 V 65 13 (V 65 12)) 65 12 (((x2 V 65 13 (V 65 12)) 65 12) + 1)) 65 15 ((x2 V 65 13 (V 65 12)) 68 ((x2 V 65 13 (V 65 12)) 65 12).toNatClampNeg)) else (if ¬ ((x2 V 65 13 (V 65 12)) 68 ((x2 V 65 13 (V 65 12)) 65 12).toNatClampNeg) = 35 then b_Md_next_370 ((x2 V 65 13 (V 65 12)) 68 ((x2 V 65 13 (V 65 12)) 65 12).toNatClampNeg) 4 (x2 (x2 (x2 V 65 13 (V 65 12)) 65 12 (((x2 V 65 13 (V 65 12)) 65 12) + 1)) 65 15 ((x2 V 65 13 (V 65 12)) 68 ((x2 V 65 13 (V 65 12)) 65 12).toNatClampNeg)) else b_Md_next_370 ((x2 V 65 13 (V 65 12)) 68 ((x2 V 65 13 (V 65 12)) 65 12).toNatClampNeg) 3 (x2 (x2 (x2 V 65 13 (V 65 12)) 65 12 (((x2 V 65 13 (V 65 12)) 65 12) + 1)) 65 15 ((x2 V 65 13 (V 65 12)) 68 ((x2 V 65 13 (V 65 12)) 65 12).toNatClampNeg)))))) else g_Md_next_232 2000 (x2 (x2 (x2 V 65 13 (V 65 12)) 65 14 2) 65 15 0)) else g_Md_next_99 2000 0 0 (x2 V 65 13 (V 65 12))) else none) else some (x2 (x2 V 65 13 (V 65 12)) 65 14 0))
theorem tb_Md_next_52 {L : xL} (res : xV)  (V : xV) (h : b_Md_next_52 V = some res) : X M_Md_next (xRm (3) M_Md_next) (xZ M_Md_next (fun o h' => o = none ∧ h' = (SH, res, L))) SH V L 0 0 52 [(0, .ref 65)] [] := by
  unfold b_Md_next_52 at h
  refine x_aload_n 0 d_Md_next_52 rfl rfl ?_
  refine x_aload_n 0 d_Md_next_53 rfl rfl ?_
  refine x_getI f_Md_158 sh_65 rfl d_Md_next_54 ?_
  refine x_putI f_Md_164 sh_65 rfl rfl rfl d_Md_next_57 ?_
  refine x_aload_n 0 d_Md_next_60 rfl rfl ?_
  refine x_getI f_Md_158 sh_65 rfl d_Md_next_61 ?_
  refine x_aload_n 0 d_Md_next_64 rfl rfl ?_
  refine x_getI f_Md_161 sh_65 rfl d_Md_next_65 ?_
  refine x_icmp_ne 77 d_Md_next_68 (by decide) (fun c6 => ?_) (fun c6 => ?_)
  · replace h := xpos c6 h
    refine x_aload_n 0 d_Md_next_77 rfl rfl ?_
    refine x_getP (q := 68) f_Md_16 sh_65 rfl d_Md_next_78 ?_
    refine x_aload_n 0 d_Md_next_81 rfl rfl ?_
    refine x_getI f_Md_158 sh_65 rfl d_Md_next_82 ?_
    obtain ⟨c7, h⟩ := xguard h
    refine x_baload sh_68 c7 d_Md_next_85 ?_
    refine x_istore_n [(1, .int ((x2 V 65 13 (V 65 12)) 68 ((x2 V 65 13 (V 65 12)) 65 12).toNatClampNeg)), (0, .ref 65)] d_Md_next_86 rfl (Nat.le_of_ble_eq_true rfl) rfl ?_
    refine x_iload_n 0 d_Md_next_87 rfl rfl ?_
    refine x_callS0 e_Md_170 (t_Md_isLetter ((x2 V 65 13 (V 65 12)) 68 ((x2 V 65 13 (V 65 12)) 65 12).toNatClampNeg) (x2 V 65 13 (V 65 12)) L _ rfl) rfl rfl rfl (Nat.le_of_ble_eq_true rfl) (xfit_of (by omega) (Nat.le_of_ble_eq_true rfl)) (Nat.zero_le _) (Nat.zero_le _) d_Md_next_88 ?_
    refine x_if_eq 211 d_Md_next_91 (by decide) (fun c9 => ?_) (fun c9 => ?_)
    · replace h := xpos c9 h
      refine x_iload_n 0 d_Md_next_211 rfl rfl ?_
      refine x_bipush 48 d_Md_next_212 (by decide) ?_
      refine x_bipush 57 d_Md_next_214 (by decide) ?_
      refine x_callS0 e_Md_89 (t_Md_in ((x2 V 65 13 (V 65 12)) 68 ((x2 V 65 13 (V 65 12)) 65 12).toNatClampNeg) 48 57 (x2 V 65 13 (V 65 12)) L _ rfl) rfl rfl rfl (Nat.le_of_ble_eq_true rfl) (xfit_of (by omega) (Nat.le_of_ble_eq_true rfl)) (Nat.zero_le _) (Nat.zero_le _) d_Md_next_216 ?_
      refine x_if_eq 315 d_Md_next_219 (by decide) (fun c11 => ?_) (fun c11 => ?_)
      · replace h := xpos c11 h
        refine x_aload_n 1 d_Md_next_315 rfl rfl ?_
        refine x_dup d_Md_next_316 rfl ?_
        refine x_getI f_Md_158 sh_65 rfl d_Md_next_317 ?_
        refine x_iconst 1 d_Md_next_320 (by decide) ?_
        refine x_iadd d_Md_next_321 ?_
        refine x_putI f_Md_158 sh_65 rfl rfl rfl d_Md_next_322 ?_
        refine x_aload_n 1 d_Md_next_325 rfl rfl ?_
        refine x_iload_n 0 d_Md_next_326 rfl rfl ?_
        refine x_putI f_Md_179 sh_65 rfl rfl rfl d_Md_next_327 ?_
        refine x_aload_n 1 d_Md_next_330 rfl rfl ?_
        refine x_iload_n 0 d_Md_next_331 rfl rfl ?_
        refine x_bipush 59 d_Md_next_332 (by decide) ?_
        refine x_bipush 62 d_Md_next_334 (by decide) ?_
        refine x_callS0 e_Md_89 (t_Md_in ((x2 V 65 13 (V 65 12)) 68 ((x2 V 65 13 (V 65 12)) 65 12).toNatClampNeg) 59 62 (x2 (x2 (x2 V 65 13 (V 65 12)) 65 12 (((x2 V 65 13 (V 65 12)) 65 12) + 1)) 65 15 ((x2 V 65 13 (V 65 12)) 68 ((x2 V 65 13 (V 65 12)) 65 12).toNatClampNeg)) L _ rfl) rfl rfl rfl (Nat.le_of_ble_eq_true rfl) (xfit_of (by omega) (Nat.le_of_ble_eq_true rfl)) (Nat.zero_le _) (Nat.zero_le _) d_Md_next_336 ?_
        refine x_if_ne 365 d_Md_next_339 (by decide) (fun c13 => ?_) (fun c13 => ?_)
        · replace h := xpos c13 h
          refine x_iconst 3 d_Md_next_365 (by decide) ?_
          refine x_goto 370 d_Md_next_366 (by decide) ?_
          refine x_pick [1, 0] rfl ?_
          exact tb_Md_next_370 (L := L) res ((x2 V 65 13 (V 65 12)) 68 ((x2 V 65 13 (V 65 12)) 65 12).toNatClampNeg) 3 (x2 (x2 (x2 V 65 13 (V 65 12)) 65 12 (((x2 V 65 13 (V 65 12)) 65 12) + 1)) 65 15 ((x2 V 65 13 (V 65 12)) 68 ((x2 V 65 13 (V 65 12)) 65 12).toNatClampNeg)) h
        · replace h := xneg c13 h
          refine x_iload_n 0 d_Md_next_342 rfl rfl ?_
          refine x_bipush 40 d_Md_next_343 (by decide) ?_
          refine x_bipush 45 d_Md_next_345 (by decide) ?_
          refine x_callS0 e_Md_89 (t_Md_in ((x2 V 65 13 (V 65 12)) 68 ((x2 V 65 13 (V 65 12)) 65 12).toNatClampNeg) 40 45 (x2 (x2 (x2 V 65 13 (V 65 12)) 65 12 (((x2 V 65 13 (V 65 12)) 65 12) + 1)) 65 15 ((x2 V 65 13 (V 65 12)) 68 ((x2 V 65 13 (V 65 12)) 65 12).toNatClampNeg)) L _ rfl) rfl rfl rfl (Nat.le_of_ble_eq_true rfl) (xfit_of (by omega) (Nat.le_of_ble_eq_true rfl)) (Nat.zero_le _) (Nat.zero_le _) d_Md_next_347 ?_
          refine x_if_ne 365 d_Md_next_350 (by decide) (fun c15 => ?_) (fun c15 => ?_)
          · replace h := xpos c15 h
            refine x_iconst 3 d_Md_next_365 (by decide) ?_
            refine x_goto 370 d_Md_next_366 (by decide) ?_
            refine x_pick [1, 0] rfl ?_
            exact tb_Md_next_370 (L := L) res ((x2 V 65 13 (V 65 12)) 68 ((x2 V 65 13 (V 65 12)) 65 12).toNatClampNeg) 3 (x2 (x2 (x2 V 65 13 (V 65 12)) 65 12 (((x2 V 65 13 (V 65 12)) 65 12) + 1)) 65 15 ((x2 V 65 13 (V 65 12)) 68 ((x2 V 65 13 (V 65 12)) 65 12).toNatClampNeg)) h
          · replace h := xneg c15 h
            refine x_iload_n 0 d_Md_next_353 rfl rfl ?_
            refine x_bipush 47 d_Md_next_354 (by decide) ?_
            refine x_icmp_eq 365 d_Md_next_356 (by decide) (fun c16 => ?_) (fun c16 => ?_)
            · replace h := xpos c16 h
              refine x_iconst 3 d_Md_next_365 (by decide) ?_
              refine x_goto 370 d_Md_next_366 (by decide) ?_
              refine x_pick [1, 0] rfl ?_
              exact tb_Md_next_370 (L := L) res ((x2 V 65 13 (V 65 12)) 68 ((x2 V 65 13 (V 65 12)) 65 12).toNatClampNeg) 3 (x2 (x2 (x2 V 65 13 (V 65 12)) 65 12 (((x2 V 65 13 (V 65 12)) 65 12) + 1)) 65 15 ((x2 V 65 13 (V 65 12)) 68 ((x2 V 65 13 (V 65 12)) 65 12).toNatClampNeg)) h
            · replace h := xneg c16 h
              refine x_iload_n 0 d_Md_next_359 rfl rfl ?_
              refine x_bipush 35 d_Md_next_360 (by decide) ?_
              refine x_icmp_ne 369 d_Md_next_362 (by decide) (fun c17 => ?_) (fun c17 => ?_)
              · replace h := xpos c17 h
                refine x_iconst 4 d_Md_next_369 (by decide) ?_
                refine x_pick [1, 0] rfl ?_
                exact tb_Md_next_370 (L := L) res ((x2 V 65 13 (V 65 12)) 68 ((x2 V 65 13 (V 65 12)) 65 12).toNatClampNeg) 4 (x2 (x2 (x2 V 65 13 (V 65 12)) 65 12 (((x2 V 65 13 (V 65 12)) 65 12) + 1)) 65 15 ((x2 V 65 13 (V 65 12)) 68 ((x2 V 65 13 (V 65 12)) 65 12).toNatClampNeg)) h
              · replace h := xneg c17 h
                refine x_iconst 3 d_Md_next_365 (by decide) ?_
                refine x_goto 370 d_Md_next_366 (by decide) ?_
                refine x_pick [1, 0] rfl ?_
                exact tb_Md_next_370 (L := L) res ((x2 V 65 13 (V 65 12)) 68 ((x2 V 65 13 (V 65 12)) 65 12).toNatClampNeg) 3 (x2 (x2 (x2 V 65 13 (V 65 12)) 65 12 (((x2 V 65 13 (V 65 12)) 65 12) + 1)) 65 15 ((x2 V 65 13 (V 65 12)) 68 ((x2 V 65 13 (V 65 12)) 65 12).toNatClampNeg)) h
      · replace h := xneg c11 h
        refine x_aload_n 1 d_Md_next_222 rfl rfl ?_
        refine x_iconst 2 d_Md_next_223 (by decide) ?_
        refine x_putI f_Md_167 sh_65 rfl rfl rfl d_Md_next_224 ?_
        refine x_aload_n 1 d_Md_next_227 rfl rfl ?_
        refine x_iconst 0 d_Md_next_228 (by decide) ?_
        refine x_putI f_Md_179 sh_65 rfl rfl rfl d_Md_next_229 ?_
        refine x_pick [1] rfl ?_
        exact tg_Md_next_232 (L := L) res _ (x2 (x2 (x2 V 65 13 (V 65 12)) 65 14 2) 65 15 0) h
    · replace h := xneg c9 h
      refine x_lconst 0 d_Md_next_94 (by decide) ?_
      refine x_lstore_n [(2, .long 0), (1, .int ((x2 V 65 13 (V 65 12)) 68 ((x2 V 65 13 (V 65 12)) 65 12).toNatClampNeg)), (0, .ref 65)] d_Md_next_95 rfl (Nat.le_of_ble_eq_true rfl) rfl ?_
      refine x_iconst 0 d_Md_next_96 (by decide) ?_
      refine x_istore [(4, .int 0), (2, .long 0), (1, .int ((x2 V 65 13 (V 65 12)) 68 ((x2 V 65 13 (V 65 12)) 65 12).toNatClampNeg)), (0, .ref 65)] d_Md_next_97 (Nat.le_of_ble_eq_true rfl) rfl ?_
      refine x_pick [3, 1, 0] rfl ?_
      exact tg_Md_next_99 (L := L) res _ 0 0 (x2 V 65 13 (V 65 12)) h
  · replace h := xneg c6 h
    refine x_aload_n 0 d_Md_next_71 rfl rfl ?_
    refine x_iconst 0 d_Md_next_72 (by decide) ?_
    refine x_putI f_Md_167 sh_65 rfl rfl rfl d_Md_next_73 ?_
    obtain rfl := Option.some.inj h
    exact x_return rfl d_Md_next_76 (Nat.le_refl _) (Nat.le_refl _) ⟨rfl, rfl⟩
def b_Md_next_0 (k0 : xV → Option (xV)) (V : xV) : Option (xV) := (if (V 65 11) ≤ (V 65 12) then b_Md_next_52 V else (if xI (V 65 12) 300 = true then (if (V 68 (V 65 12).toNatClampNeg) = 32 then k0 (x2 V 65 12 ((V 65 12) + 1)) else (if xI (V 65 12) 300 = true then (if ¬ (V 68 (V 65 12).toNatClampNeg) = 10 then b_Md_next_52 V else k0 (x2 V 65 12 ((V 65 12) + 1))) else none)) else none))
theorem tb_Md_next_0 {L : xL} (k0 : xV → Option (xV)) (res : xV) (hk0 : ∀ (V : xV), k0 V = some res → X M_Md_next (xRm (3) M_Md_next) (xZ M_Md_next (fun o h' => o = none ∧ h' = (SH, res, L))) SH V L 0 0 0 [(0, .ref 65)] []) (V : xV) (h : b_Md_next_0 k0 V = some res) : X M_Md_next (xRm (3) M_Md_next) (xZ M_Md_next (fun o h' => o = none ∧ h' = (SH, res, L))) SH V L 0 0 0 [(0, .ref 65)] [] := by
  unfold b_Md_next_0 at h
  refine x_aload_n 0 d_Md_next_0 rfl rfl ?_
  refine x_getI f_Md_158 sh_65 rfl d_Md_next_1 ?_
  refine x_aload_n 0 d_Md_next_4 rfl rfl ?_
  refine x_getI f_Md_161 sh_65 rfl d_Md_next_5 ?_
  refine x_icmp_ge 52 d_Md_next_8 (by decide) (fun c1 => ?_) (fun c1 => ?_)
  · replace h := xpos c1 h
    exact tb_Md_next_52 (L := L) res V h
  · replace h := xneg c1 h
    refine x_aload_n 0 d_Md_next_11 rfl rfl ?_
    refine x_getP (q := 68) f_Md_16 sh_65 rfl d_Md_next_12 ?_
    refine x_aload_n 0 d_Md_next_15 rfl rfl ?_
    refine x_getI f_Md_158 sh_65 rfl d_Md_next_16 ?_
    obtain ⟨c2, h⟩ := xguard h
    refine x_baload sh_68 c2 d_Md_next_19 ?_
    refine x_bipush 32 d_Md_next_20 (by decide) ?_
    refine x_icmp_eq 39 d_Md_next_22 (by decide) (fun c3 => ?_) (fun c3 => ?_)
    · replace h := xpos c3 h
      refine x_aload_n 0 d_Md_next_39 rfl rfl ?_
      refine x_dup d_Md_next_40 rfl ?_
      refine x_getI f_Md_158 sh_65 rfl d_Md_next_41 ?_
      refine x_iconst 1 d_Md_next_44 (by decide) ?_
      refine x_iadd d_Md_next_45 ?_
      refine x_putI f_Md_158 sh_65 rfl rfl rfl d_Md_next_46 ?_
      refine x_goto 0 d_Md_next_49 (by decide) ?_
      exact hk0 (x2 V 65 12 ((V 65 12) + 1)) h
    · replace h := xneg c3 h
      refine x_aload_n 0 d_Md_next_25 rfl rfl ?_
      refine x_getP (q := 68) f_Md_16 sh_65 rfl d_Md_next_26 ?_
      refine x_aload_n 0 d_Md_next_29 rfl rfl ?_
      refine x_getI f_Md_158 sh_65 rfl d_Md_next_30 ?_
      obtain ⟨c4, h⟩ := xguard h
      refine x_baload sh_68 c4 d_Md_next_33 ?_
      refine x_bipush 10 d_Md_next_34 (by decide) ?_
      refine x_icmp_ne 52 d_Md_next_36 (by decide) (fun c5 => ?_) (fun c5 => ?_)
      · replace h := xpos c5 h
        exact tb_Md_next_52 (L := L) res V h
      · replace h := xneg c5 h
        refine x_aload_n 0 d_Md_next_39 rfl rfl ?_
        refine x_dup d_Md_next_40 rfl ?_
        refine x_getI f_Md_158 sh_65 rfl d_Md_next_41 ?_
        refine x_iconst 1 d_Md_next_44 (by decide) ?_
        refine x_iadd d_Md_next_45 ?_
        refine x_putI f_Md_158 sh_65 rfl rfl rfl d_Md_next_46 ?_
        refine x_goto 0 d_Md_next_49 (by decide) ?_
        exact hk0 (x2 V 65 12 ((V 65 12) + 1)) h
def g_Md_next_0  : Nat → xV → Option (xV)
  | 0, _ => none
  | n + 1, V => b_Md_next_0 (g_Md_next_0  n) V
theorem tg_Md_next_0 {L : xL} (res : xV)  : ∀ (n : Nat) (V : xV), g_Md_next_0  n V = some res → X M_Md_next (xRm (3) M_Md_next) (xZ M_Md_next (fun o h' => o = none ∧ h' = (SH, res, L))) SH V L 0 0 0 [(0, .ref 65)] []
  | 0, _, h => by cases h
  | n + 1, V, h => tb_Md_next_0 (L := L) (g_Md_next_0  n) res (tg_Md_next_0 (L := L) res n) V h
def f_Md_next (V : xV) : Option (xV) := g_Md_next_0 2000 V
theorem t_Md_next  (V : xV) (L : xL) (res : xV) (h : f_Md_next V = some res) : xRuns (3) M_Md_next [.ref 65] (SH, V, L) (fun o h' => o = none ∧ h' = (SH, res, L)) := by
  refine xRuns_of (by decide) (Nat.le_of_ble_eq_true rfl) ?_
  unfold f_Md_next at h
  show X M_Md_next (xRm (3) M_Md_next) (xZ M_Md_next (fun o h' => o = none ∧ h' = (SH, res, L))) SH V L 0 0 0 [(0, .ref 65)] []
  exact tg_Md_next_0 (L := L) res _ V h
-- Md_isWord
def f_Md_isWord (a1 : Int32) (V : xV) : Int32 := (if ¬ (V 65 14) = 1 then 0 else (if ¬ (V 65 15) = a1 then 0 else 1))
theorem t_Md_isWord (a1 : Int32) (V : xV) (L : xL) (res : Int32) (h : f_Md_isWord a1 V = res) : xRuns (1) M_Md_isWord [.ref 65, .int a1] (SH, V, L) (fun o h' => o = some (.int res) ∧ h' = (SH, V, L)) := by
  refine xRuns_of (by decide) (Nat.le_of_ble_eq_true rfl) ?_
  unfold f_Md_isWord at h
  show X M_Md_isWord (xRm (1) M_Md_isWord) (xZ M_Md_isWord (fun o h' => o = some (.int res) ∧ h' = (SH, V, L))) SH V L 0 0 0 [(0, .ref 65), (1, .int a1)] []
  refine x_aload_n 0 d_Md_isWord_0 rfl rfl ?_
  refine x_getI f_Md_167 sh_65 rfl d_Md_isWord_1 ?_
  refine x_iconst 1 d_Md_isWord_4 (by decide) ?_
  refine x_icmp_ne 20 d_Md_isWord_5 (by decide) (fun c1 => ?_) (fun c1 => ?_)
  · replace h := xpos c1 h
    refine x_iconst 0 d_Md_isWord_20 (by decide) ?_
    obtain rfl := h
    exact x_zreturn rfl rfl d_Md_isWord_21 (Nat.le_refl _) (Nat.le_refl _) ⟨rfl, rfl⟩
  · replace h := xneg c1 h
    refine x_aload_n 0 d_Md_isWord_8 rfl rfl ?_
    refine x_getI f_Md_179 sh_65 rfl d_Md_isWord_9 ?_
    refine x_iload_n 1 d_Md_isWord_12 rfl rfl ?_
    refine x_icmp_ne 20 d_Md_isWord_13 (by decide) (fun c2 => ?_) (fun c2 => ?_)
    · replace h := xpos c2 h
      refine x_iconst 0 d_Md_isWord_20 (by decide) ?_
      obtain rfl := h
      exact x_zreturn rfl rfl d_Md_isWord_21 (Nat.le_refl _) (Nat.le_refl _) ⟨rfl, rfl⟩
    · replace h := xneg c2 h
      refine x_iconst 1 d_Md_isWord_16 (by decide) ?_
      refine x_goto 21 d_Md_isWord_17 (by decide) ?_
      obtain rfl := h
      exact x_zreturn rfl rfl d_Md_isWord_21 (Nat.le_refl _) (Nat.le_refl _) ⟨rfl, rfl⟩
-- Md_opensFrame
def f_Md_opensFrame (a1 : Int32) (V : xV) : Option (xV) := (if xI (V 65 19) 40 = true then some (x2 (x2 V 74 ((V 65 19).toNatClampNeg) a1) 65 19 (((x2 V 74 ((V 65 19).toNatClampNeg) a1) 65 19) + 1)) else none)
theorem t_Md_opensFrame (a1 : Int32) (V : xV) (L : xL) (res : xV) (h : f_Md_opensFrame a1 V = some res) : xRuns (1) M_Md_opensFrame [.ref 65, .int a1] (SH, V, L) (fun o h' => o = none ∧ h' = (SH, res, L)) := by
  refine xRuns_of (by decide) (Nat.le_of_ble_eq_true rfl) ?_
  unfold f_Md_opensFrame at h
  show X M_Md_opensFrame (xRm (1) M_Md_opensFrame) (xZ M_Md_opensFrame (fun o h' => o = none ∧ h' = (SH, res, L))) SH V L 0 0 0 [(0, .ref 65), (1, .int a1)] []
  refine x_aload_n 0 d_Md_opensFrame_0 rfl rfl ?_
  refine x_getP (q := 74) f_Md_42 sh_65 rfl d_Md_opensFrame_1 ?_
  refine x_aload_n 0 d_Md_opensFrame_4 rfl rfl ?_
  refine x_getI f_Md_192 sh_65 rfl d_Md_opensFrame_5 ?_
  refine x_iload_n 1 d_Md_opensFrame_8 rfl rfl ?_
  obtain ⟨c1, h⟩ := xguard h
  refine x_iastore sh_74 c1 d_Md_opensFrame_9 ?_
  refine x_aload_n 0 d_Md_opensFrame_10 rfl rfl ?_
  refine x_dup d_Md_opensFrame_11 rfl ?_
  refine x_getI f_Md_192 sh_65 rfl d_Md_opensFrame_12 ?_
  refine x_iconst 1 d_Md_opensFrame_15 (by decide) ?_
  refine x_iadd d_Md_opensFrame_16 ?_
  refine x_putI f_Md_192 sh_65 rfl rfl rfl d_Md_opensFrame_17 ?_
  obtain rfl := Option.some.inj h
  exact x_return rfl d_Md_opensFrame_20 (Nat.le_refl _) (Nat.le_refl _) ⟨rfl, rfl⟩
-- Md_errs
def f_Md_errs (a1 : Int32) (V : xV) : xV := (if ¬ (V 65 16) = 0 then V else (x2 (x2 V 65 16 a1) 65 17 ((x2 V 65 16 a1) 65 13)))
theorem t_Md_errs (a1 : Int32) (V : xV) (L : xL) (res : xV) (h : f_Md_errs a1 V = res) : xRuns (1) M_Md_errs [.ref 65, .int a1] (SH, V, L) (fun o h' => o = none ∧ h' = (SH, res, L)) := by
  refine xRuns_of (by decide) (Nat.le_of_ble_eq_true rfl) ?_
  unfold f_Md_errs at h
  show X M_Md_errs (xRm (1) M_Md_errs) (xZ M_Md_errs (fun o h' => o = none ∧ h' = (SH, res, L))) SH V L 0 0 0 [(0, .ref 65), (1, .int a1)] []
  refine x_aload_n 0 d_Md_errs_0 rfl rfl ?_
  refine x_getI f_Md_183 sh_65 rfl d_Md_errs_1 ?_
  refine x_if_ne 20 d_Md_errs_4 (by decide) (fun c1 => ?_) (fun c1 => ?_)
  · replace h := xpos c1 h
    obtain rfl := h
    exact x_return rfl d_Md_errs_20 (Nat.le_refl _) (Nat.le_refl _) ⟨rfl, rfl⟩
  · replace h := xneg c1 h
    refine x_aload_n 0 d_Md_errs_7 rfl rfl ?_
    refine x_iload_n 1 d_Md_errs_8 rfl rfl ?_
    refine x_putI f_Md_183 sh_65 rfl rfl rfl d_Md_errs_9 ?_
    refine x_aload_n 0 d_Md_errs_12 rfl rfl ?_
    refine x_aload_n 0 d_Md_errs_13 rfl rfl ?_
    refine x_getI f_Md_164 sh_65 rfl d_Md_errs_14 ?_
    refine x_putI f_Md_186 sh_65 rfl rfl rfl d_Md_errs_17 ?_
    obtain rfl := h
    exact x_return rfl d_Md_errs_20 (Nat.le_refl _) (Nat.le_refl _) ⟨rfl, rfl⟩
-- Md_opensSign
def f_Md_opensSign (a1 : Int32) (V : xV) : Option (Int32 × xV) := (if ¬ (V 65 18) = 8 then (Option.bind (f_Md_opensFrame a1 (x2 V 65 18 ((V 65 18) + 1))) fun p2 => (Option.bind (f_Md_next p2) fun p4 => some (1, p4))) else some (0, (f_Md_errs 3 V)))
theorem t_Md_opensSign (a1 : Int32) (V : xV) (L : xL) (res : Int32 × xV) (h : f_Md_opensSign a1 V = some res) : xRuns (4) M_Md_opensSign [.ref 65, .int a1] (SH, V, L) (fun o h' => o = some (.int res.1) ∧ h' = (SH, res.2, L)) := by
  refine xRuns_of (by decide) (Nat.le_of_ble_eq_true rfl) ?_
  unfold f_Md_opensSign at h
  show X M_Md_opensSign (xRm (4) M_Md_opensSign) (xZ M_Md_opensSign (fun o h' => o = some (.int res.1) ∧ h' = (SH, res.2, L))) SH V L 0 0 0 [(0, .ref 65), (1, .int a1)] []
  refine x_aload_n 0 d_Md_opensSign_0 rfl rfl ?_
  refine x_getI f_Md_195 sh_65 rfl d_Md_opensSign_1 ?_
  refine x_bipush 8 d_Md_opensSign_4 (by decide) ?_
  refine x_icmp_ne 16 d_Md_opensSign_6 (by decide) (fun c1 => ?_) (fun c1 => ?_)
  · replace h := xpos c1 h
    refine x_aload_n 0 d_Md_opensSign_16 rfl rfl ?_
    refine x_dup d_Md_opensSign_17 rfl ?_
    refine x_getI f_Md_195 sh_65 rfl d_Md_opensSign_18 ?_
    refine x_iconst 1 d_Md_opensSign_21 (by decide) ?_
    refine x_iadd d_Md_opensSign_22 ?_
    refine x_putI f_Md_195 sh_65 rfl rfl rfl d_Md_opensSign_23 ?_
    refine x_aload_n 0 d_Md_opensSign_26 rfl rfl ?_
    refine x_iload_n 1 d_Md_opensSign_27 rfl rfl ?_
    obtain ⟨p2, e3, h⟩ := xbind h
    refine x_callV0v e_Md_201 sh_65 rfl (t_Md_opensFrame a1 (x2 V 65 18 ((V 65 18) + 1)) L _ e3) rfl rfl rfl (Nat.le_of_ble_eq_true rfl) (xfit_of (by omega) (Nat.le_of_ble_eq_true rfl)) (Nat.zero_le _) (Nat.zero_le _) d_Md_opensSign_28 ?_
    refine x_aload_n 0 d_Md_opensSign_31 rfl rfl ?_
    obtain ⟨p4, e5, h⟩ := xbind h
    refine x_callV0v e_Md_204 sh_65 rfl (t_Md_next p2 L _ e5) rfl rfl rfl (Nat.le_of_ble_eq_true rfl) (xfit_of (by omega) (Nat.le_of_ble_eq_true rfl)) (Nat.zero_le _) (Nat.zero_le _) d_Md_opensSign_32 ?_
    refine x_iconst 1 d_Md_opensSign_35 (by decide) ?_
    obtain rfl := Option.some.inj h
    exact x_zreturn rfl rfl d_Md_opensSign_36 (Nat.le_refl _) (Nat.le_refl _) ⟨rfl, rfl⟩
  · replace h := xneg c1 h
    refine x_aload_n 0 d_Md_opensSign_9 rfl rfl ?_
    refine x_iconst 3 d_Md_opensSign_10 (by decide) ?_
    refine x_callV0v e_Md_198 sh_65 rfl (t_Md_errs 3 V L _ rfl) rfl rfl rfl (Nat.le_of_ble_eq_true rfl) (xfit_of (by omega) (Nat.le_of_ble_eq_true rfl)) (Nat.zero_le _) (Nat.zero_le _) d_Md_opensSign_11 ?_
    refine x_iconst 0 d_Md_opensSign_14 (by decide) ?_
    obtain rfl := Option.some.inj h
    exact x_zreturn rfl rfl d_Md_opensSign_15 (Nat.le_refl _) (Nat.le_refl _) ⟨rfl, rfl⟩
-- Md_asks
def f_Md_asks (V : xV) : Option (xV) := (if (f_Md_isWord 8 V) = 0 then (Option.bind (f_Md_opensFrame 4 V) fun p3 => some (x2 p3 65 25 1)) else (Option.bind (f_Md_opensSign 3 V) fun p5 => some p5.2))
theorem t_Md_asks  (V : xV) (L : xL) (res : xV) (h : f_Md_asks V = some res) : xRuns (5) M_Md_asks [.ref 65] (SH, V, L) (fun o h' => o = none ∧ h' = (SH, res, L)) := by
  refine xRuns_of (by decide) (Nat.le_of_ble_eq_true rfl) ?_
  unfold f_Md_asks at h
  show X M_Md_asks (xRm (5) M_Md_asks) (xZ M_Md_asks (fun o h' => o = none ∧ h' = (SH, res, L))) SH V L 0 0 0 [(0, .ref 65)] []
  refine x_aload_n 0 d_Md_asks_0 rfl rfl ?_
  refine x_bipush 8 d_Md_asks_1 (by decide) ?_
  refine x_callV0 e_Md_221 sh_65 rfl (t_Md_isWord 8 V L _ rfl) rfl rfl rfl (Nat.le_of_ble_eq_true rfl) (xfit_of (by omega) (Nat.le_of_ble_eq_true rfl)) (Nat.zero_le _) (Nat.zero_le _) d_Md_asks_3 ?_
  refine x_if_eq 18 d_Md_asks_6 (by decide) (fun c2 => ?_) (fun c2 => ?_)
  · replace h := xpos c2 h
    refine x_aload_n 0 d_Md_asks_18 rfl rfl ?_
    refine x_iconst 4 d_Md_asks_19 (by decide) ?_
    obtain ⟨p3, e4, h⟩ := xbind h
    refine x_callV0v e_Md_201 sh_65 rfl (t_Md_opensFrame 4 V L _ e4) rfl rfl rfl (Nat.le_of_ble_eq_true rfl) (xfit_of (by omega) (Nat.le_of_ble_eq_true rfl)) (Nat.zero_le _) (Nat.zero_le _) d_Md_asks_20 ?_
    refine x_aload_n 0 d_Md_asks_23 rfl rfl ?_
    refine x_iconst 1 d_Md_asks_24 (by decide) ?_
    refine x_putI f_Md_227 sh_65 rfl rfl rfl d_Md_asks_25 ?_
    obtain rfl := Option.some.inj h
    exact x_return rfl d_Md_asks_28 (Nat.le_refl _) (Nat.le_refl _) ⟨rfl, rfl⟩
  · replace h := xneg c2 h
    refine x_aload_n 0 d_Md_asks_9 rfl rfl ?_
    refine x_iconst 3 d_Md_asks_10 (by decide) ?_
    obtain ⟨p5, e6, h⟩ := xbind h
    refine x_callV0 e_Md_224 sh_65 rfl (t_Md_opensSign 3 V L _ e6) rfl rfl rfl (Nat.le_of_ble_eq_true rfl) (xfit_of (by omega) (Nat.le_of_ble_eq_true rfl)) (Nat.zero_le _) (Nat.zero_le _) d_Md_asks_11 ?_
    refine x_istore_n [(1, .int p5.1), (0, .ref 65)] d_Md_asks_14 rfl (Nat.le_of_ble_eq_true rfl) rfl ?_
    refine x_goto 28 d_Md_asks_15 (by decide) ?_
    obtain rfl := Option.some.inj h
    exact x_return rfl d_Md_asks_28 (Nat.le_refl _) (Nat.le_refl _) ⟨rfl, rfl⟩
-- Md_mayOf
def f_Md_mayOf (a0 : Int32) : Int32 := (if a0 = 0 then 31 else (if a0 = 1 then 243 else (if a0 = 2 then 1011 else (if a0 = 3 then 483 else (if a0 = 4 then 1267 else 6147)))))
theorem t_Md_mayOf (a0 : Int32) (V : xV) (L : xL) (res : Int32) (h : f_Md_mayOf a0 = res) : xRuns (1) M_Md_mayOf [.int a0] (SH, V, L) (fun o h' => o = some (.int res) ∧ h' = (SH, V, L)) := by
  refine xRuns_of (by decide) (Nat.le_of_ble_eq_true rfl) ?_
  unfold f_Md_mayOf at h
  show X M_Md_mayOf (xRm (1) M_Md_mayOf) (xZ M_Md_mayOf (fun o h' => o = some (.int res) ∧ h' = (SH, V, L))) SH V L 0 0 0 [(0, .int a0)] []
  refine x_iload_n 0 d_Md_mayOf_0 rfl rfl ?_
  by_cases c1 : a0 = 0
  · replace h := xpos c1 h
    refine x_tableIn 35 36 d_Md_mayOf_1 (by rw [c1]; decide) (by rw [c1]; decide) (by rw [c1]; rfl) (by decide) ?_
    refine x_bipush 31 d_Md_mayOf_36 (by decide) ?_
    obtain rfl := h
    exact x_ireturn rfl d_Md_mayOf_38 (Nat.le_refl _) (Nat.le_refl _) ⟨rfl, rfl⟩
  replace h := xneg c1 h
  by_cases c2 : a0 = 1
  · replace h := xpos c2 h
    refine x_tableIn 38 39 d_Md_mayOf_1 (by rw [c2]; decide) (by rw [c2]; decide) (by rw [c2]; rfl) (by decide) ?_
    refine x_sipush 243 d_Md_mayOf_39 (by decide) ?_
    obtain rfl := h
    exact x_ireturn rfl d_Md_mayOf_42 (Nat.le_refl _) (Nat.le_refl _) ⟨rfl, rfl⟩
  replace h := xneg c2 h
  by_cases c3 : a0 = 2
  · replace h := xpos c3 h
    refine x_tableIn 42 43 d_Md_mayOf_1 (by rw [c3]; decide) (by rw [c3]; decide) (by rw [c3]; rfl) (by decide) ?_
    refine x_sipush 1011 d_Md_mayOf_43 (by decide) ?_
    obtain rfl := h
    exact x_ireturn rfl d_Md_mayOf_46 (Nat.le_refl _) (Nat.le_refl _) ⟨rfl, rfl⟩
  replace h := xneg c3 h
  by_cases c4 : a0 = 3
  · replace h := xpos c4 h
    refine x_tableIn 46 47 d_Md_mayOf_1 (by rw [c4]; decide) (by rw [c4]; decide) (by rw [c4]; rfl) (by decide) ?_
    refine x_sipush 483 d_Md_mayOf_47 (by decide) ?_
    obtain rfl := h
    exact x_ireturn rfl d_Md_mayOf_50 (Nat.le_refl _) (Nat.le_refl _) ⟨rfl, rfl⟩
  replace h := xneg c4 h
  by_cases c5 : a0 = 4
  · replace h := xpos c5 h
    refine x_tableIn 50 51 d_Md_mayOf_1 (by rw [c5]; decide) (by rw [c5]; decide) (by rw [c5]; rfl) (by decide) ?_
    refine x_sipush 1267 d_Md_mayOf_51 (by decide) ?_
    obtain rfl := h
    exact x_ireturn rfl d_Md_mayOf_54 (Nat.le_refl _) (Nat.le_refl _) ⟨rfl, rfl⟩
  replace h := xneg c5 h
  refine x_tableOut 55 d_Md_mayOf_1 (by have n0 := lv_neT c1 (a := 0) rfl; have n1 := lv_neT c2 (a := 1) rfl; have n2 := lv_neT c3 (a := 2) rfl; have n3 := lv_neT c4 (a := 3) rfl; have n4 := lv_neT c5 (a := 4) rfl; omega) (by decide) ?_
  refine x_sipush 6147 d_Md_mayOf_55 (by decide) ?_
  obtain rfl := h
  exact x_ireturn rfl d_Md_mayOf_58 (Nat.le_refl _) (Nat.le_refl _) ⟨rfl, rfl⟩
-- Md_emits
def f_Md_emits (a1 : Int32) (a2 : Int32) (V : xV) : Option (xV) := (if xI (V 65 30) 400 = true then (if xI ((x2 V 80 ((V 65 30).toNatClampNeg) a1) 65 30) 400 = true then some (x2 (x2 (x2 V 80 ((V 65 30).toNatClampNeg) a1) 81 (((x2 V 80 ((V 65 30).toNatClampNeg) a1) 65 30).toNatClampNeg) a2) 65 30 (((x2 (x2 V 80 ((V 65 30).toNatClampNeg) a1) 81 (((x2 V 80 ((V 65 30).toNatClampNeg) a1) 65 30).toNatClampNeg) a2) 65 30) + 1)) else none) else none)
theorem t_Md_emits (a1 : Int32) (a2 : Int32) (V : xV) (L : xL) (res : xV) (h : f_Md_emits a1 a2 V = some res) : xRuns (1) M_Md_emits [.ref 65, .int a1, .int a2] (SH, V, L) (fun o h' => o = none ∧ h' = (SH, res, L)) := by
  refine xRuns_of (by decide) (Nat.le_of_ble_eq_true rfl) ?_
  unfold f_Md_emits at h
  show X M_Md_emits (xRm (1) M_Md_emits) (xZ M_Md_emits (fun o h' => o = none ∧ h' = (SH, res, L))) SH V L 0 0 0 [(0, .ref 65), (1, .int a1), (2, .int a2)] []
  refine x_aload_n 0 d_Md_emits_0 rfl rfl ?_
  refine x_getP (q := 80) f_Md_60 sh_65 rfl d_Md_emits_1 ?_
  refine x_aload_n 0 d_Md_emits_4 rfl rfl ?_
  refine x_getI f_Md_189 sh_65 rfl d_Md_emits_5 ?_
  refine x_iload_n 1 d_Md_emits_8 rfl rfl ?_
  obtain ⟨c1, h⟩ := xguard h
  refine x_iastore sh_80 c1 d_Md_emits_9 ?_
  refine x_aload_n 0 d_Md_emits_10 rfl rfl ?_
  refine x_getP (q := 81) f_Md_63 sh_65 rfl d_Md_emits_11 ?_
  refine x_aload_n 0 d_Md_emits_14 rfl rfl ?_
  refine x_getI f_Md_189 sh_65 rfl d_Md_emits_15 ?_
  refine x_iload_n 2 d_Md_emits_18 rfl rfl ?_
  obtain ⟨c2, h⟩ := xguard h
  refine x_iastore sh_81 c2 d_Md_emits_19 ?_
  refine x_aload_n 0 d_Md_emits_20 rfl rfl ?_
  refine x_dup d_Md_emits_21 rfl ?_
  refine x_getI f_Md_189 sh_65 rfl d_Md_emits_22 ?_
  refine x_iconst 1 d_Md_emits_25 (by decide) ?_
  refine x_iadd d_Md_emits_26 ?_
  refine x_putI f_Md_189 sh_65 rfl rfl rfl d_Md_emits_27 ?_
  obtain rfl := Option.some.inj h
  exact x_return rfl d_Md_emits_30 (Nat.le_refl _) (Nat.le_refl _) ⟨rfl, rfl⟩
-- Md_top
def f_Md_top (V : xV) : Option (Int32) := (if xI ((V 65 19) - 1) 40 = true then some (V 74 ((V 65 19) - 1).toNatClampNeg) else none)
theorem t_Md_top  (V : xV) (L : xL) (res : Int32) (h : f_Md_top V = some res) : xRuns (1) M_Md_top [.ref 65] (SH, V, L) (fun o h' => o = some (.int res) ∧ h' = (SH, V, L)) := by
  refine xRuns_of (by decide) (Nat.le_of_ble_eq_true rfl) ?_
  unfold f_Md_top at h
  show X M_Md_top (xRm (1) M_Md_top) (xZ M_Md_top (fun o h' => o = some (.int res) ∧ h' = (SH, V, L))) SH V L 0 0 0 [(0, .ref 65)] []
  refine x_aload_n 0 d_Md_top_0 rfl rfl ?_
  refine x_getP (q := 74) f_Md_42 sh_65 rfl d_Md_top_1 ?_
  refine x_aload_n 0 d_Md_top_4 rfl rfl ?_
  refine x_getI f_Md_192 sh_65 rfl d_Md_top_5 ?_
  refine x_iconst 1 d_Md_top_8 (by decide) ?_
  refine x_isub d_Md_top_9 ?_
  obtain ⟨c1, h⟩ := xguard h
  refine x_iaload sh_74 c1 d_Md_top_10 ?_
  obtain rfl := Option.some.inj h
  exact x_ireturn rfl d_Md_top_11 (Nat.le_refl _) (Nat.le_refl _) ⟨rfl, rfl⟩
-- Md_oneIsOver
def b_Md_oneIsOver_0 (k0 : xV → Option (xV)) (V : xV) : Option (xV) := (Option.bind (f_Md_top V) fun p1 => (if ¬ p1 = 7 then some (x2 V 65 25 2) else (Option.bind (f_Md_emits 402 0 (x2 (x2 V 65 19 ((V 65 19) - 1)) 65 18 (((x2 V 65 19 ((V 65 19) - 1)) 65 18) - 1))) fun p4 => k0 p4)))
theorem tb_Md_oneIsOver_0 {L : xL} (k0 : xV → Option (xV)) (res : xV) (hk0 : ∀ (V : xV), k0 V = some res → X M_Md_oneIsOver (xRm (2) M_Md_oneIsOver) (xZ M_Md_oneIsOver (fun o h' => o = none ∧ h' = (SH, res, L))) SH V L 0 0 0 [(0, .ref 65)] []) (V : xV) (h : b_Md_oneIsOver_0 k0 V = some res) : X M_Md_oneIsOver (xRm (2) M_Md_oneIsOver) (xZ M_Md_oneIsOver (fun o h' => o = none ∧ h' = (SH, res, L))) SH V L 0 0 0 [(0, .ref 65)] [] := by
  unfold b_Md_oneIsOver_0 at h
  refine x_aload_n 0 d_Md_oneIsOver_0 rfl rfl ?_
  obtain ⟨p1, e2, h⟩ := xbind h
  refine x_callV0 e_Md_242 sh_65 rfl (t_Md_top V L _ e2) rfl rfl rfl (Nat.le_of_ble_eq_true rfl) (xfit_of (by omega) (Nat.le_of_ble_eq_true rfl)) (Nat.zero_le _) (Nat.zero_le _) d_Md_oneIsOver_1 ?_
  refine x_bipush 7 d_Md_oneIsOver_4 (by decide) ?_
  refine x_icmp_ne 40 d_Md_oneIsOver_6 (by decide) (fun c3 => ?_) (fun c3 => ?_)
  · replace h := xpos c3 h
    refine x_aload_n 0 d_Md_oneIsOver_40 rfl rfl ?_
    refine x_iconst 2 d_Md_oneIsOver_41 (by decide) ?_
    refine x_putI f_Md_227 sh_65 rfl rfl rfl d_Md_oneIsOver_42 ?_
    obtain rfl := Option.some.inj h
    exact x_return rfl d_Md_oneIsOver_45 (Nat.le_refl _) (Nat.le_refl _) ⟨rfl, rfl⟩
  · replace h := xneg c3 h
    refine x_aload_n 0 d_Md_oneIsOver_9 rfl rfl ?_
    refine x_dup d_Md_oneIsOver_10 rfl ?_
    refine x_getI f_Md_192 sh_65 rfl d_Md_oneIsOver_11 ?_
    refine x_iconst 1 d_Md_oneIsOver_14 (by decide) ?_
    refine x_isub d_Md_oneIsOver_15 ?_
    refine x_putI f_Md_192 sh_65 rfl rfl rfl d_Md_oneIsOver_16 ?_
    refine x_aload_n 0 d_Md_oneIsOver_19 rfl rfl ?_
    refine x_dup d_Md_oneIsOver_20 rfl ?_
    refine x_getI f_Md_195 sh_65 rfl d_Md_oneIsOver_21 ?_
    refine x_iconst 1 d_Md_oneIsOver_24 (by decide) ?_
    refine x_isub d_Md_oneIsOver_25 ?_
    refine x_putI f_Md_195 sh_65 rfl rfl rfl d_Md_oneIsOver_26 ?_
    refine x_aload_n 0 d_Md_oneIsOver_29 rfl rfl ?_
    refine x_sipush 402 d_Md_oneIsOver_30 (by decide) ?_
    refine x_iconst 0 d_Md_oneIsOver_33 (by decide) ?_
    obtain ⟨p4, e5, h⟩ := xbind h
    refine x_callV0v e_Md_214 sh_65 rfl (t_Md_emits 402 0 (x2 (x2 V 65 19 ((V 65 19) - 1)) 65 18 (((x2 V 65 19 ((V 65 19) - 1)) 65 18) - 1)) L _ e5) rfl rfl rfl (Nat.le_of_ble_eq_true rfl) (xfit_of (by omega) (Nat.le_of_ble_eq_true rfl)) (Nat.zero_le _) (Nat.zero_le _) d_Md_oneIsOver_34 ?_
    refine x_goto 0 d_Md_oneIsOver_37 (by decide) ?_
    exact hk0 p4 h
def g_Md_oneIsOver_0  : Nat → xV → Option (xV)
  | 0, _ => none
  | n + 1, V => b_Md_oneIsOver_0 (g_Md_oneIsOver_0  n) V
theorem tg_Md_oneIsOver_0 {L : xL} (res : xV)  : ∀ (n : Nat) (V : xV), g_Md_oneIsOver_0  n V = some res → X M_Md_oneIsOver (xRm (2) M_Md_oneIsOver) (xZ M_Md_oneIsOver (fun o h' => o = none ∧ h' = (SH, res, L))) SH V L 0 0 0 [(0, .ref 65)] []
  | 0, _, h => by cases h
  | n + 1, V, h => tb_Md_oneIsOver_0 (L := L) (g_Md_oneIsOver_0  n) res (tg_Md_oneIsOver_0 (L := L) res n) V h
def f_Md_oneIsOver (V : xV) : Option (xV) := g_Md_oneIsOver_0 2000 V
theorem t_Md_oneIsOver  (V : xV) (L : xL) (res : xV) (h : f_Md_oneIsOver V = some res) : xRuns (2) M_Md_oneIsOver [.ref 65] (SH, V, L) (fun o h' => o = none ∧ h' = (SH, res, L)) := by
  refine xRuns_of (by decide) (Nat.le_of_ble_eq_true rfl) ?_
  unfold f_Md_oneIsOver at h
  show X M_Md_oneIsOver (xRm (2) M_Md_oneIsOver) (xZ M_Md_oneIsOver (fun o h' => o = none ∧ h' = (SH, res, L))) SH V L 0 0 0 [(0, .ref 65)] []
  exact tg_Md_oneIsOver_0 (L := L) res _ V h
-- Md_isSign
def f_Md_isSign (a1 : Int32) (V : xV) : Int32 := (if ¬ (V 65 14) = 3 then 0 else (if ¬ (V 65 15) = a1 then 0 else 1))
theorem t_Md_isSign (a1 : Int32) (V : xV) (L : xL) (res : Int32) (h : f_Md_isSign a1 V = res) : xRuns (1) M_Md_isSign [.ref 65, .int a1] (SH, V, L) (fun o h' => o = some (.int res) ∧ h' = (SH, V, L)) := by
  refine xRuns_of (by decide) (Nat.le_of_ble_eq_true rfl) ?_
  unfold f_Md_isSign at h
  show X M_Md_isSign (xRm (1) M_Md_isSign) (xZ M_Md_isSign (fun o h' => o = some (.int res) ∧ h' = (SH, V, L))) SH V L 0 0 0 [(0, .ref 65), (1, .int a1)] []
  refine x_aload_n 0 d_Md_isSign_0 rfl rfl ?_
  refine x_getI f_Md_167 sh_65 rfl d_Md_isSign_1 ?_
  refine x_iconst 3 d_Md_isSign_4 (by decide) ?_
  refine x_icmp_ne 20 d_Md_isSign_5 (by decide) (fun c1 => ?_) (fun c1 => ?_)
  · replace h := xpos c1 h
    refine x_iconst 0 d_Md_isSign_20 (by decide) ?_
    obtain rfl := h
    exact x_zreturn rfl rfl d_Md_isSign_21 (Nat.le_refl _) (Nat.le_refl _) ⟨rfl, rfl⟩
  · replace h := xneg c1 h
    refine x_aload_n 0 d_Md_isSign_8 rfl rfl ?_
    refine x_getI f_Md_179 sh_65 rfl d_Md_isSign_9 ?_
    refine x_iload_n 1 d_Md_isSign_12 rfl rfl ?_
    refine x_icmp_ne 20 d_Md_isSign_13 (by decide) (fun c2 => ?_) (fun c2 => ?_)
    · replace h := xpos c2 h
      refine x_iconst 0 d_Md_isSign_20 (by decide) ?_
      obtain rfl := h
      exact x_zreturn rfl rfl d_Md_isSign_21 (Nat.le_refl _) (Nat.le_refl _) ⟨rfl, rfl⟩
    · replace h := xneg c2 h
      refine x_iconst 1 d_Md_isSign_16 (by decide) ?_
      refine x_goto 21 d_Md_isSign_17 (by decide) ?_
      obtain rfl := h
      exact x_zreturn rfl rfl d_Md_isSign_21 (Nat.le_refl _) (Nat.le_refl _) ⟨rfl, rfl⟩
-- Md_begins
def b_Md_begins_112 (V : xV) : Option (xV) := (if (f_Md_isSign 40 V) = 0 then (if (f_Md_isSign 45 V) = 0 then some (f_Md_errs 1 V) else (Option.bind (f_Md_opensSign 7 V) fun p26 => some p26.2)) else (Option.bind (f_Md_opensSign 6 V) fun p28 => some p28.2))
theorem tb_Md_begins_112 {L : xL} (res : xV)  (V : xV) (h : b_Md_begins_112 V = some res) : X M_Md_begins (xRm (5) M_Md_begins) (xZ M_Md_begins (fun o h' => o = none ∧ h' = (SH, res, L))) SH V L 0 0 112 [(0, .ref 65)] [] := by
  unfold b_Md_begins_112 at h
  refine x_aload_n 0 d_Md_begins_112 rfl rfl ?_
  refine x_bipush 40 d_Md_begins_113 (by decide) ?_
  refine x_callV0 e_Md_239 sh_65 rfl (t_Md_isSign 40 V L _ rfl) rfl rfl rfl (Nat.le_of_ble_eq_true rfl) (xfit_of (by omega) (Nat.le_of_ble_eq_true rfl)) (Nat.zero_le _) (Nat.zero_le _) d_Md_begins_115 ?_
  refine x_if_eq 131 d_Md_begins_118 (by decide) (fun c22 => ?_) (fun c22 => ?_)
  · replace h := xpos c22 h
    refine x_aload_n 0 d_Md_begins_131 rfl rfl ?_
    refine x_bipush 45 d_Md_begins_132 (by decide) ?_
    refine x_callV0 e_Md_239 sh_65 rfl (t_Md_isSign 45 V L _ rfl) rfl rfl rfl (Nat.le_of_ble_eq_true rfl) (xfit_of (by omega) (Nat.le_of_ble_eq_true rfl)) (Nat.zero_le _) (Nat.zero_le _) d_Md_begins_134 ?_
    refine x_if_eq 150 d_Md_begins_137 (by decide) (fun c24 => ?_) (fun c24 => ?_)
    · replace h := xpos c24 h
      refine x_aload_n 0 d_Md_begins_150 rfl rfl ?_
      refine x_iconst 1 d_Md_begins_151 (by decide) ?_
      refine x_callV0v e_Md_198 sh_65 rfl (t_Md_errs 1 V L _ rfl) rfl rfl rfl (Nat.le_of_ble_eq_true rfl) (xfit_of (by omega) (Nat.le_of_ble_eq_true rfl)) (Nat.zero_le _) (Nat.zero_le _) d_Md_begins_152 ?_
      obtain rfl := Option.some.inj h
      exact x_return rfl d_Md_begins_155 (Nat.le_refl _) (Nat.le_refl _) ⟨rfl, rfl⟩
    · replace h := xneg c24 h
      refine x_aload_n 0 d_Md_begins_140 rfl rfl ?_
      refine x_bipush 7 d_Md_begins_141 (by decide) ?_
      obtain ⟨p26, e27, h⟩ := xbind h
      refine x_callV0 e_Md_224 sh_65 rfl (t_Md_opensSign 7 V L _ e27) rfl rfl rfl (Nat.le_of_ble_eq_true rfl) (xfit_of (by omega) (Nat.le_of_ble_eq_true rfl)) (Nat.zero_le _) (Nat.zero_le _) d_Md_begins_143 ?_
      refine x_istore_n [(1, .int p26.1), (0, .ref 65)] d_Md_begins_146 rfl (Nat.le_of_ble_eq_true rfl) rfl ?_
      refine x_goto 155 d_Md_begins_147 (by decide) ?_
      obtain rfl := Option.some.inj h
      exact x_return rfl d_Md_begins_155 (Nat.le_refl _) (Nat.le_refl _) ⟨rfl, rfl⟩
  · replace h := xneg c22 h
    refine x_aload_n 0 d_Md_begins_121 rfl rfl ?_
    refine x_bipush 6 d_Md_begins_122 (by decide) ?_
    obtain ⟨p28, e29, h⟩ := xbind h
    refine x_callV0 e_Md_224 sh_65 rfl (t_Md_opensSign 6 V L _ e29) rfl rfl rfl (Nat.le_of_ble_eq_true rfl) (xfit_of (by omega) (Nat.le_of_ble_eq_true rfl)) (Nat.zero_le _) (Nat.zero_le _) d_Md_begins_124 ?_
    refine x_istore_n [(1, .int p28.1), (0, .ref 65)] d_Md_begins_127 rfl (Nat.le_of_ble_eq_true rfl) rfl ?_
    refine x_goto 155 d_Md_begins_128 (by decide) ?_
    obtain rfl := Option.some.inj h
    exact x_return rfl d_Md_begins_155 (Nat.le_refl _) (Nat.le_refl _) ⟨rfl, rfl⟩
def f_Md_begins (V : xV) : Option (xV) := (if ¬ (V 65 14) = 2 then (if ¬ (V 65 14) = 1 then b_Md_begins_112 V else (if (V 65 15) ≤ 8 then b_Md_begins_112 V else (if ¬ (((f_Md_mayOf (V 65 27)) >>> (((V 65 15) - 8) - 1 &&& 31)) &&& 1) = 0 then (Option.bind (f_Md_emits 401 (((V 65 15) - 8) - 1) V) fun p6 => (Option.bind (f_Md_next p6) fun p8 => (Option.bind (f_Md_oneIsOver p8) fun p10 => some p10))) else some (f_Md_errs 5 V)))) else (if (V 65 15) ≤ 9999 then (Option.bind (f_Md_emits 400 (V 65 15) V) fun p14 => (Option.bind (f_Md_next p14) fun p16 => (Option.bind (f_Md_oneIsOver p16) fun p18 => some p18))) else some (f_Md_errs 2 V)))
theorem t_Md_begins  (V : xV) (L : xL) (res : xV) (h : f_Md_begins V = some res) : xRuns (5) M_Md_begins [.ref 65] (SH, V, L) (fun o h' => o = none ∧ h' = (SH, res, L)) := by
  refine xRuns_of (by decide) (Nat.le_of_ble_eq_true rfl) ?_
  unfold f_Md_begins at h
  show X M_Md_begins (xRm (5) M_Md_begins) (xZ M_Md_begins (fun o h' => o = none ∧ h' = (SH, res, L))) SH V L 0 0 0 [(0, .ref 65)] []
  refine x_aload_n 0 d_Md_begins_0 rfl rfl ?_
  refine x_getI f_Md_167 sh_65 rfl d_Md_begins_1 ?_
  refine x_iconst 2 d_Md_begins_4 (by decide) ?_
  refine x_icmp_ne 46 d_Md_begins_5 (by decide) (fun c1 => ?_) (fun c1 => ?_)
  · replace h := xpos c1 h
    refine x_aload_n 0 d_Md_begins_46 rfl rfl ?_
    refine x_getI f_Md_167 sh_65 rfl d_Md_begins_47 ?_
    refine x_iconst 1 d_Md_begins_50 (by decide) ?_
    refine x_icmp_ne 112 d_Md_begins_51 (by decide) (fun c2 => ?_) (fun c2 => ?_)
    · replace h := xpos c2 h
      exact tb_Md_begins_112 (L := L) res V h
    · replace h := xneg c2 h
      refine x_aload_n 0 d_Md_begins_54 rfl rfl ?_
      refine x_getI f_Md_179 sh_65 rfl d_Md_begins_55 ?_
      refine x_bipush 8 d_Md_begins_58 (by decide) ?_
      refine x_icmp_le 112 d_Md_begins_60 (by decide) (fun c3 => ?_) (fun c3 => ?_)
      · replace h := xpos c3 h
        exact tb_Md_begins_112 (L := L) res V h
      · replace h := xneg c3 h
        refine x_aload_n 0 d_Md_begins_63 rfl rfl ?_
        refine x_getI f_Md_179 sh_65 rfl d_Md_begins_64 ?_
        refine x_bipush 8 d_Md_begins_67 (by decide) ?_
        refine x_isub d_Md_begins_69 ?_
        refine x_iconst 1 d_Md_begins_70 (by decide) ?_
        refine x_isub d_Md_begins_71 ?_
        refine x_istore_n [(1, .int (((V 65 15) - 8) - 1)), (0, .ref 65)] d_Md_begins_72 rfl (Nat.le_of_ble_eq_true rfl) rfl ?_
        refine x_aload_n 1 d_Md_begins_73 rfl rfl ?_
        refine x_getI f_Md_233 sh_65 rfl d_Md_begins_74 ?_
        refine x_callS0 e_Md_236 (t_Md_mayOf (V 65 27) V L _ rfl) rfl rfl rfl (Nat.le_of_ble_eq_true rfl) (xfit_of (by omega) (Nat.le_of_ble_eq_true rfl)) (Nat.zero_le _) (Nat.zero_le _) d_Md_begins_77 ?_
        refine x_iload_n 0 d_Md_begins_80 rfl rfl ?_
        refine x_ishr d_Md_begins_81 ?_
        refine x_iconst 1 d_Md_begins_82 (by decide) ?_
        refine x_iand d_Md_begins_83 ?_
        refine x_if_ne 93 d_Md_begins_84 (by decide) (fun c5 => ?_) (fun c5 => ?_)
        · replace h := xpos c5 h
          refine x_aload_n 1 d_Md_begins_93 rfl rfl ?_
          refine x_sipush 401 d_Md_begins_94 (by decide) ?_
          refine x_iload_n 0 d_Md_begins_97 rfl rfl ?_
          obtain ⟨p6, e7, h⟩ := xbind h
          refine x_callV0v e_Md_214 sh_65 rfl (t_Md_emits 401 (((V 65 15) - 8) - 1) V L _ e7) rfl rfl rfl (Nat.le_of_ble_eq_true rfl) (xfit_of (by omega) (Nat.le_of_ble_eq_true rfl)) (Nat.zero_le _) (Nat.zero_le _) d_Md_begins_98 ?_
          refine x_aload_n 1 d_Md_begins_101 rfl rfl ?_
          obtain ⟨p8, e9, h⟩ := xbind h
          refine x_callV0v e_Md_204 sh_65 rfl (t_Md_next p6 L _ e9) rfl rfl rfl (Nat.le_of_ble_eq_true rfl) (xfit_of (by omega) (Nat.le_of_ble_eq_true rfl)) (Nat.zero_le _) (Nat.zero_le _) d_Md_begins_102 ?_
          refine x_aload_n 1 d_Md_begins_105 rfl rfl ?_
          obtain ⟨p10, e11, h⟩ := xbind h
          refine x_callV0v e_Md_230 sh_65 rfl (t_Md_oneIsOver p8 L _ e11) rfl rfl rfl (Nat.le_of_ble_eq_true rfl) (xfit_of (by omega) (Nat.le_of_ble_eq_true rfl)) (Nat.zero_le _) (Nat.zero_le _) d_Md_begins_106 ?_
          refine x_goto 155 d_Md_begins_109 (by decide) ?_
          obtain rfl := Option.some.inj h
          exact x_return rfl d_Md_begins_155 (Nat.le_refl _) (Nat.le_refl _) ⟨rfl, rfl⟩
        · replace h := xneg c5 h
          refine x_aload_n 1 d_Md_begins_87 rfl rfl ?_
          refine x_iconst 5 d_Md_begins_88 (by decide) ?_
          refine x_callV0v e_Md_198 sh_65 rfl (t_Md_errs 5 V L _ rfl) rfl rfl rfl (Nat.le_of_ble_eq_true rfl) (xfit_of (by omega) (Nat.le_of_ble_eq_true rfl)) (Nat.zero_le _) (Nat.zero_le _) d_Md_begins_89 ?_
          obtain rfl := Option.some.inj h
          exact x_return rfl d_Md_begins_92 (Nat.le_refl _) (Nat.le_refl _) ⟨rfl, rfl⟩
  · replace h := xneg c1 h
    refine x_aload_n 0 d_Md_begins_8 rfl rfl ?_
    refine x_getI f_Md_179 sh_65 rfl d_Md_begins_9 ?_
    refine x_sipush 9999 d_Md_begins_12 (by decide) ?_
    refine x_icmp_le 24 d_Md_begins_15 (by decide) (fun c13 => ?_) (fun c13 => ?_)
    · replace h := xpos c13 h
      refine x_aload_n 0 d_Md_begins_24 rfl rfl ?_
      refine x_sipush 400 d_Md_begins_25 (by decide) ?_
      refine x_aload_n 0 d_Md_begins_28 rfl rfl ?_
      refine x_getI f_Md_179 sh_65 rfl d_Md_begins_29 ?_
      obtain ⟨p14, e15, h⟩ := xbind h
      refine x_callV0v e_Md_214 sh_65 rfl (t_Md_emits 400 (V 65 15) V L _ e15) rfl rfl rfl (Nat.le_of_ble_eq_true rfl) (xfit_of (by omega) (Nat.le_of_ble_eq_true rfl)) (Nat.zero_le _) (Nat.zero_le _) d_Md_begins_32 ?_
      refine x_aload_n 0 d_Md_begins_35 rfl rfl ?_
      obtain ⟨p16, e17, h⟩ := xbind h
      refine x_callV0v e_Md_204 sh_65 rfl (t_Md_next p14 L _ e17) rfl rfl rfl (Nat.le_of_ble_eq_true rfl) (xfit_of (by omega) (Nat.le_of_ble_eq_true rfl)) (Nat.zero_le _) (Nat.zero_le _) d_Md_begins_36 ?_
      refine x_aload_n 0 d_Md_begins_39 rfl rfl ?_
      obtain ⟨p18, e19, h⟩ := xbind h
      refine x_callV0v e_Md_230 sh_65 rfl (t_Md_oneIsOver p16 L _ e19) rfl rfl rfl (Nat.le_of_ble_eq_true rfl) (xfit_of (by omega) (Nat.le_of_ble_eq_true rfl)) (Nat.zero_le _) (Nat.zero_le _) d_Md_begins_40 ?_
      refine x_goto 155 d_Md_begins_43 (by decide) ?_
      obtain rfl := Option.some.inj h
      exact x_return rfl d_Md_begins_155 (Nat.le_refl _) (Nat.le_refl _) ⟨rfl, rfl⟩
    · replace h := xneg c13 h
      refine x_aload_n 0 d_Md_begins_18 rfl rfl ?_
      refine x_iconst 2 d_Md_begins_19 (by decide) ?_
      refine x_callV0v e_Md_198 sh_65 rfl (t_Md_errs 2 V L _ rfl) rfl rfl rfl (Nat.le_of_ble_eq_true rfl) (xfit_of (by omega) (Nat.le_of_ble_eq_true rfl)) (Nat.zero_le _) (Nat.zero_le _) d_Md_begins_20 ?_
      obtain rfl := Option.some.inj h
      exact x_return rfl d_Md_begins_23 (Nat.le_refl _) (Nat.le_refl _) ⟨rfl, rfl⟩
