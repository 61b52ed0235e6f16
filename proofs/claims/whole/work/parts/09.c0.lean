theorem d_Ww_within_0 : decode M_Ww_within.2.1 0 = .ok (.iload_n 0, 1) := by decide +kernel
theorem d_Ww_within_1 : decode M_Ww_within.2.1 1 = .ok (.ifCond .lt 12, 3) := by decide +kernel
theorem d_Ww_within_4 : decode M_Ww_within.2.1 4 = .ok (.iload_n 0, 1) := by decide +kernel
theorem d_Ww_within_5 : decode M_Ww_within.2.1 5 = .ok (.iload_n 1, 1) := by decide +kernel
theorem d_Ww_within_6 : decode M_Ww_within.2.1 6 = .ok (.if_icmp .ge 7, 3) := by decide +kernel
theorem d_Ww_within_9 : decode M_Ww_within.2.1 9 = .ok (.iconst 1, 1) := by decide +kernel
theorem d_Ww_within_10 : decode M_Ww_within.2.1 10 = .ok (.goto 4, 3) := by decide +kernel
theorem d_Ww_within_13 : decode M_Ww_within.2.1 13 = .ok (.iconst 0, 1) := by decide +kernel
theorem d_Ww_within_14 : decode M_Ww_within.2.1 14 = .ok (.ireturn, 1) := by decide +kernel
theorem d_Rolls_enrol_0 : decode M_Rolls_enrol.2.1 0 = .ok (.aload_n 0, 1) := by decide +kernel
theorem d_Rolls_enrol_1 : decode M_Rolls_enrol.2.1 1 = .ok (.getfield 49, 3) := by decide +kernel
theorem d_Rolls_enrol_4 : decode M_Rolls_enrol.2.1 4 = .ok (.bipush 12, 2) := by decide +kernel
theorem d_Rolls_enrol_6 : decode M_Rolls_enrol.2.1 6 = .ok (.invokestatic 64, 3) := by decide +kernel
theorem d_Rolls_enrol_9 : decode M_Rolls_enrol.2.1 9 = .ok (.ifCond .ne 5, 3) := by decide +kernel
theorem d_Rolls_enrol_12 : decode M_Rolls_enrol.2.1 12 = .ok (.iconst (-1), 1) := by decide +kernel
theorem d_Rolls_enrol_13 : decode M_Rolls_enrol.2.1 13 = .ok (.ireturn, 1) := by decide +kernel
theorem d_Rolls_enrol_14 : decode M_Rolls_enrol.2.1 14 = .ok (.aload_n 0, 1) := by decide +kernel
theorem d_Rolls_enrol_15 : decode M_Rolls_enrol.2.1 15 = .ok (.getfield 9, 3) := by decide +kernel
theorem d_Rolls_enrol_18 : decode M_Rolls_enrol.2.1 18 = .ok (.aload_n 0, 1) := by decide +kernel
theorem d_Rolls_enrol_19 : decode M_Rolls_enrol.2.1 19 = .ok (.getfield 49, 3) := by decide +kernel
theorem d_Rolls_enrol_22 : decode M_Rolls_enrol.2.1 22 = .ok (.iload_n 1, 1) := by decide +kernel
theorem d_Rolls_enrol_23 : decode M_Rolls_enrol.2.1 23 = .ok (.iastore, 1) := by decide +kernel
theorem d_Rolls_enrol_24 : decode M_Rolls_enrol.2.1 24 = .ok (.aload_n 0, 1) := by decide +kernel
theorem d_Rolls_enrol_25 : decode M_Rolls_enrol.2.1 25 = .ok (.getfield 15, 3) := by decide +kernel
theorem d_Rolls_enrol_28 : decode M_Rolls_enrol.2.1 28 = .ok (.aload_n 0, 1) := by decide +kernel
theorem d_Rolls_enrol_29 : decode M_Rolls_enrol.2.1 29 = .ok (.getfield 49, 3) := by decide +kernel
theorem d_Rolls_enrol_32 : decode M_Rolls_enrol.2.1 32 = .ok (.iload_n 2, 1) := by decide +kernel
theorem d_Rolls_enrol_33 : decode M_Rolls_enrol.2.1 33 = .ok (.iastore, 1) := by decide +kernel
theorem d_Rolls_enrol_34 : decode M_Rolls_enrol.2.1 34 = .ok (.aload_n 0, 1) := by decide +kernel
theorem d_Rolls_enrol_35 : decode M_Rolls_enrol.2.1 35 = .ok (.getfield 18, 3) := by decide +kernel
theorem d_Rolls_enrol_38 : decode M_Rolls_enrol.2.1 38 = .ok (.aload_n 0, 1) := by decide +kernel
theorem d_Rolls_enrol_39 : decode M_Rolls_enrol.2.1 39 = .ok (.getfield 49, 3) := by decide +kernel
theorem d_Rolls_enrol_42 : decode M_Rolls_enrol.2.1 42 = .ok (.iload_n 3, 1) := by decide +kernel
theorem d_Rolls_enrol_43 : decode M_Rolls_enrol.2.1 43 = .ok (.iastore, 1) := by decide +kernel
theorem d_Rolls_enrol_44 : decode M_Rolls_enrol.2.1 44 = .ok (.aload_n 0, 1) := by decide +kernel
theorem d_Rolls_enrol_45 : decode M_Rolls_enrol.2.1 45 = .ok (.dup, 1) := by decide +kernel
theorem d_Rolls_enrol_46 : decode M_Rolls_enrol.2.1 46 = .ok (.getfield 49, 3) := by decide +kernel
theorem d_Rolls_enrol_49 : decode M_Rolls_enrol.2.1 49 = .ok (.iconst 1, 1) := by decide +kernel
theorem d_Rolls_enrol_50 : decode M_Rolls_enrol.2.1 50 = .ok (.iadd, 1) := by decide +kernel
theorem d_Rolls_enrol_51 : decode M_Rolls_enrol.2.1 51 = .ok (.putfield 49, 3) := by decide +kernel
theorem d_Rolls_enrol_54 : decode M_Rolls_enrol.2.1 54 = .ok (.aload_n 0, 1) := by decide +kernel
theorem d_Rolls_enrol_55 : decode M_Rolls_enrol.2.1 55 = .ok (.getfield 49, 3) := by decide +kernel
theorem d_Rolls_enrol_58 : decode M_Rolls_enrol.2.1 58 = .ok (.iconst 1, 1) := by decide +kernel
theorem d_Rolls_enrol_59 : decode M_Rolls_enrol.2.1 59 = .ok (.isub, 1) := by decide +kernel
theorem d_Rolls_enrol_60 : decode M_Rolls_enrol.2.1 60 = .ok (.ireturn, 1) := by decide +kernel
theorem d_Ww_folk_0 : decode M_Ww_folk.2.1 0 = .ok (.iload_n 1, 1) := by decide +kernel
theorem d_Ww_folk_1 : decode M_Ww_folk.2.1 1 = .ok (.iconst 4, 1) := by decide +kernel
theorem d_Ww_folk_2 : decode M_Ww_folk.2.1 2 = .ok (.invokestatic 80, 3) := by decide +kernel
theorem d_Ww_folk_5 : decode M_Ww_folk.2.1 5 = .ok (.ifCond .eq 21, 3) := by decide +kernel
theorem d_Ww_folk_8 : decode M_Ww_folk.2.1 8 = .ok (.iload_n 2, 1) := by decide +kernel
theorem d_Ww_folk_9 : decode M_Ww_folk.2.1 9 = .ok (.bipush 10, 2) := by decide +kernel
theorem d_Ww_folk_11 : decode M_Ww_folk.2.1 11 = .ok (.invokestatic 80, 3) := by decide +kernel
theorem d_Ww_folk_14 : decode M_Ww_folk.2.1 14 = .ok (.ifCond .eq 12, 3) := by decide +kernel
theorem d_Ww_folk_17 : decode M_Ww_folk.2.1 17 = .ok (.iload_n 3, 1) := by decide +kernel
theorem d_Ww_folk_18 : decode M_Ww_folk.2.1 18 = .ok (.bipush 10, 2) := by decide +kernel
theorem d_Ww_folk_20 : decode M_Ww_folk.2.1 20 = .ok (.invokestatic 80, 3) := by decide +kernel
theorem d_Ww_folk_23 : decode M_Ww_folk.2.1 23 = .ok (.ifCond .ne 5, 3) := by decide +kernel
theorem d_Ww_folk_26 : decode M_Ww_folk.2.1 26 = .ok (.iconst (-1), 1) := by decide +kernel
theorem d_Ww_folk_27 : decode M_Ww_folk.2.1 27 = .ok (.ireturn, 1) := by decide +kernel
theorem d_Ww_folk_28 : decode M_Ww_folk.2.1 28 = .ok (.aload_n 0, 1) := by decide +kernel
theorem d_Ww_folk_29 : decode M_Ww_folk.2.1 29 = .ok (.getfield 10, 3) := by decide +kernel
theorem d_Ww_folk_32 : decode M_Ww_folk.2.1 32 = .ok (.iload_n 1, 1) := by decide +kernel
theorem d_Ww_folk_33 : decode M_Ww_folk.2.1 33 = .ok (.iload_n 2, 1) := by decide +kernel
theorem d_Ww_folk_34 : decode M_Ww_folk.2.1 34 = .ok (.iload_n 3, 1) := by decide +kernel
theorem d_Ww_folk_35 : decode M_Ww_folk.2.1 35 = .ok (.invokevirtual 84, 3) := by decide +kernel
theorem d_Ww_folk_38 : decode M_Ww_folk.2.1 38 = .ok (.ireturn, 1) := by decide +kernel
theorem d_Ww_sky_0 : decode M_Ww_sky.2.1 0 = .ok (.iload_n 1, 1) := by decide +kernel
theorem d_Ww_sky_1 : decode M_Ww_sky.2.1 1 = .ok (.bipush 30, 2) := by decide +kernel
theorem d_Ww_sky_3 : decode M_Ww_sky.2.1 3 = .ok (.invokestatic 80, 3) := by decide +kernel
theorem d_Ww_sky_6 : decode M_Ww_sky.2.1 6 = .ok (.ifCond .eq 12, 3) := by decide +kernel
theorem d_Ww_sky_9 : decode M_Ww_sky.2.1 9 = .ok (.iload_n 2, 1) := by decide +kernel
theorem d_Ww_sky_10 : decode M_Ww_sky.2.1 10 = .ok (.bipush 10, 2) := by decide +kernel
theorem d_Ww_sky_12 : decode M_Ww_sky.2.1 12 = .ok (.invokestatic 80, 3) := by decide +kernel
theorem d_Ww_sky_15 : decode M_Ww_sky.2.1 15 = .ok (.ifCond .ne 5, 3) := by decide +kernel
theorem d_Ww_sky_18 : decode M_Ww_sky.2.1 18 = .ok (.iconst 0, 1) := by decide +kernel
theorem d_Ww_sky_19 : decode M_Ww_sky.2.1 19 = .ok (.ireturn, 1) := by decide +kernel
theorem d_Ww_sky_20 : decode M_Ww_sky.2.1 20 = .ok (.aload_n 0, 1) := by decide +kernel
theorem d_Ww_sky_21 : decode M_Ww_sky.2.1 21 = .ok (.getfield 10, 3) := by decide +kernel
theorem d_Ww_sky_24 : decode M_Ww_sky.2.1 24 = .ok (.getfield 88, 3) := by decide +kernel
theorem d_Ww_sky_27 : decode M_Ww_sky.2.1 27 = .ok (.iload_n 1, 1) := by decide +kernel
theorem d_Ww_sky_28 : decode M_Ww_sky.2.1 28 = .ok (.iload_n 2, 1) := by decide +kernel
theorem d_Ww_sky_29 : decode M_Ww_sky.2.1 29 = .ok (.iastore, 1) := by decide +kernel
theorem d_Ww_sky_30 : decode M_Ww_sky.2.1 30 = .ok (.iconst 1, 1) := by decide +kernel
theorem d_Ww_sky_31 : decode M_Ww_sky.2.1 31 = .ok (.ireturn, 1) := by decide +kernel
theorem d_Rolls_wetDays_0 : decode M_Rolls_wetDays.2.1 0 = .ok (.iconst 0, 1) := by decide +kernel
theorem d_Rolls_wetDays_1 : decode M_Rolls_wetDays.2.1 1 = .ok (.istore_n 1, 1) := by decide +kernel
theorem d_Rolls_wetDays_2 : decode M_Rolls_wetDays.2.1 2 = .ok (.iconst 0, 1) := by decide +kernel
theorem d_Rolls_wetDays_3 : decode M_Rolls_wetDays.2.1 3 = .ok (.istore_n 2, 1) := by decide +kernel
theorem d_Rolls_wetDays_4 : decode M_Rolls_wetDays.2.1 4 = .ok (.iload_n 2, 1) := by decide +kernel
theorem d_Rolls_wetDays_5 : decode M_Rolls_wetDays.2.1 5 = .ok (.bipush 30, 2) := by decide +kernel
theorem d_Rolls_wetDays_7 : decode M_Rolls_wetDays.2.1 7 = .ok (.if_icmp .ge 27, 3) := by decide +kernel
theorem d_Rolls_wetDays_10 : decode M_Rolls_wetDays.2.1 10 = .ok (.iload_n 1, 1) := by decide +kernel
theorem d_Rolls_wetDays_11 : decode M_Rolls_wetDays.2.1 11 = .ok (.aload_n 0, 1) := by decide +kernel
theorem d_Rolls_wetDays_12 : decode M_Rolls_wetDays.2.1 12 = .ok (.getfield 21, 3) := by decide +kernel
theorem d_Rolls_wetDays_15 : decode M_Rolls_wetDays.2.1 15 = .ok (.iload_n 2, 1) := by decide +kernel
theorem d_Rolls_wetDays_16 : decode M_Rolls_wetDays.2.1 16 = .ok (.iaload, 1) := by decide +kernel
theorem d_Rolls_wetDays_17 : decode M_Rolls_wetDays.2.1 17 = .ok (.iconst 5, 1) := by decide +kernel
theorem d_Rolls_wetDays_18 : decode M_Rolls_wetDays.2.1 18 = .ok (.if_icmp .lt 7, 3) := by decide +kernel
theorem d_Rolls_wetDays_21 : decode M_Rolls_wetDays.2.1 21 = .ok (.iconst 1, 1) := by decide +kernel
theorem d_Rolls_wetDays_22 : decode M_Rolls_wetDays.2.1 22 = .ok (.goto 4, 3) := by decide +kernel
theorem d_Rolls_wetDays_25 : decode M_Rolls_wetDays.2.1 25 = .ok (.iconst 0, 1) := by decide +kernel
theorem d_Rolls_wetDays_26 : decode M_Rolls_wetDays.2.1 26 = .ok (.iadd, 1) := by decide +kernel
theorem d_Rolls_wetDays_27 : decode M_Rolls_wetDays.2.1 27 = .ok (.istore_n 1, 1) := by decide +kernel
theorem d_Rolls_wetDays_28 : decode M_Rolls_wetDays.2.1 28 = .ok (.iinc 2 1, 3) := by decide +kernel
theorem d_Rolls_wetDays_31 : decode M_Rolls_wetDays.2.1 31 = .ok (.goto (-27), 3) := by decide +kernel
theorem d_Rolls_wetDays_34 : decode M_Rolls_wetDays.2.1 34 = .ok (.iload_n 1, 1) := by decide +kernel
theorem d_Rolls_wetDays_35 : decode M_Rolls_wetDays.2.1 35 = .ok (.ireturn, 1) := by decide +kernel
theorem d_Ww_skies_0 : decode M_Ww_skies.2.1 0 = .ok (.iload_n 1, 1) := by decide +kernel
theorem d_Ww_skies_1 : decode M_Ww_skies.2.1 1 = .ok (.sipush 10000, 3) := by decide +kernel
theorem d_Ww_skies_4 : decode M_Ww_skies.2.1 4 = .ok (.invokestatic 80, 3) := by decide +kernel
theorem d_Ww_skies_7 : decode M_Ww_skies.2.1 7 = .ok (.ifCond .ne 5, 3) := by decide +kernel
theorem d_Ww_skies_10 : decode M_Ww_skies.2.1 10 = .ok (.iconst (-1), 1) := by decide +kernel
theorem d_Ww_skies_11 : decode M_Ww_skies.2.1 11 = .ok (.ireturn, 1) := by decide +kernel
theorem d_Ww_skies_12 : decode M_Ww_skies.2.1 12 = .ok (.iload_n 1, 1) := by decide +kernel
theorem d_Ww_skies_13 : decode M_Ww_skies.2.1 13 = .ok (.bipush 11, 2) := by decide +kernel
theorem d_Ww_skies_15 : decode M_Ww_skies.2.1 15 = .ok (.imul, 1) := by decide +kernel
theorem d_Ww_skies_16 : decode M_Ww_skies.2.1 16 = .ok (.bipush 7, 2) := by decide +kernel
theorem d_Ww_skies_18 : decode M_Ww_skies.2.1 18 = .ok (.iadd, 1) := by decide +kernel
theorem d_Ww_skies_19 : decode M_Ww_skies.2.1 19 = .ok (.istore_n 2, 1) := by decide +kernel
theorem d_Ww_skies_20 : decode M_Ww_skies.2.1 20 = .ok (.iconst 0, 1) := by decide +kernel
theorem d_Ww_skies_21 : decode M_Ww_skies.2.1 21 = .ok (.istore_n 3, 1) := by decide +kernel
theorem d_Ww_skies_22 : decode M_Ww_skies.2.1 22 = .ok (.iload_n 3, 1) := by decide +kernel
theorem d_Ww_skies_23 : decode M_Ww_skies.2.1 23 = .ok (.bipush 30, 2) := by decide +kernel
theorem d_Ww_skies_25 : decode M_Ww_skies.2.1 25 = .ok (.if_icmp .ge 35, 3) := by decide +kernel
theorem d_Ww_skies_28 : decode M_Ww_skies.2.1 28 = .ok (.aload_n 0, 1) := by decide +kernel
theorem d_Ww_skies_29 : decode M_Ww_skies.2.1 29 = .ok (.getfield 10, 3) := by decide +kernel
theorem d_Ww_skies_32 : decode M_Ww_skies.2.1 32 = .ok (.getfield 88, 3) := by decide +kernel
theorem d_Ww_skies_35 : decode M_Ww_skies.2.1 35 = .ok (.iload_n 3, 1) := by decide +kernel
theorem d_Ww_skies_36 : decode M_Ww_skies.2.1 36 = .ok (.iload_n 2, 1) := by decide +kernel
theorem d_Ww_skies_37 : decode M_Ww_skies.2.1 37 = .ok (.bipush 10, 2) := by decide +kernel
theorem d_Ww_skies_39 : decode M_Ww_skies.2.1 39 = .ok (.irem, 1) := by decide +kernel
theorem d_Ww_skies_40 : decode M_Ww_skies.2.1 40 = .ok (.iastore, 1) := by decide +kernel
theorem d_Ww_skies_41 : decode M_Ww_skies.2.1 41 = .ok (.iload_n 2, 1) := by decide +kernel
theorem d_Ww_skies_42 : decode M_Ww_skies.2.1 42 = .ok (.sipush 233, 3) := by decide +kernel
theorem d_Ww_skies_45 : decode M_Ww_skies.2.1 45 = .ok (.imul, 1) := by decide +kernel
theorem d_Ww_skies_46 : decode M_Ww_skies.2.1 46 = .ok (.bipush 61, 2) := by decide +kernel
theorem d_Ww_skies_48 : decode M_Ww_skies.2.1 48 = .ok (.iadd, 1) := by decide +kernel
theorem d_Ww_skies_49 : decode M_Ww_skies.2.1 49 = .ok (.sipush 30139, 3) := by decide +kernel
theorem d_Ww_skies_52 : decode M_Ww_skies.2.1 52 = .ok (.irem, 1) := by decide +kernel
theorem d_Ww_skies_53 : decode M_Ww_skies.2.1 53 = .ok (.istore_n 2, 1) := by decide +kernel
theorem d_Ww_skies_54 : decode M_Ww_skies.2.1 54 = .ok (.iinc 3 1, 3) := by decide +kernel
theorem d_Ww_skies_57 : decode M_Ww_skies.2.1 57 = .ok (.goto (-35), 3) := by decide +kernel
theorem d_Ww_skies_60 : decode M_Ww_skies.2.1 60 = .ok (.aload_n 0, 1) := by decide +kernel
theorem d_Ww_skies_61 : decode M_Ww_skies.2.1 61 = .ok (.getfield 10, 3) := by decide +kernel
theorem d_Ww_skies_64 : decode M_Ww_skies.2.1 64 = .ok (.invokevirtual 92, 3) := by decide +kernel
theorem d_Ww_skies_67 : decode M_Ww_skies.2.1 67 = .ok (.ireturn, 1) := by decide +kernel
theorem d_Rolls_stamp_0 : decode M_Rolls_stamp.2.1 0 = .ok (.iload_n 1, 1) := by decide +kernel
theorem d_Rolls_stamp_1 : decode M_Rolls_stamp.2.1 1 = .ok (.iconst 4, 1) := by decide +kernel
theorem d_Rolls_stamp_2 : decode M_Rolls_stamp.2.1 2 = .ok (.imul, 1) := by decide +kernel
theorem d_Rolls_stamp_3 : decode M_Rolls_stamp.2.1 3 = .ok (.iload_n 2, 1) := by decide +kernel
theorem d_Rolls_stamp_4 : decode M_Rolls_stamp.2.1 4 = .ok (.iadd, 1) := by decide +kernel
theorem d_Rolls_stamp_5 : decode M_Rolls_stamp.2.1 5 = .ok (.istore 4, 2) := by decide +kernel
theorem d_Rolls_stamp_7 : decode M_Rolls_stamp.2.1 7 = .ok (.iload 4, 2) := by decide +kernel
theorem d_Rolls_stamp_9 : decode M_Rolls_stamp.2.1 9 = .ok (.aload_n 0, 1) := by decide +kernel
theorem d_Rolls_stamp_10 : decode M_Rolls_stamp.2.1 10 = .ok (.getfield 24, 3) := by decide +kernel
theorem d_Rolls_stamp_13 : decode M_Rolls_stamp.2.1 13 = .ok (.arraylength, 1) := by decide +kernel
theorem d_Rolls_stamp_14 : decode M_Rolls_stamp.2.1 14 = .ok (.invokestatic 64, 3) := by decide +kernel
theorem d_Rolls_stamp_17 : decode M_Rolls_stamp.2.1 17 = .ok (.ifCond .eq 14, 3) := by decide +kernel
theorem d_Rolls_stamp_20 : decode M_Rolls_stamp.2.1 20 = .ok (.aload_n 0, 1) := by decide +kernel
theorem d_Rolls_stamp_21 : decode M_Rolls_stamp.2.1 21 = .ok (.getfield 24, 3) := by decide +kernel
theorem d_Rolls_stamp_24 : decode M_Rolls_stamp.2.1 24 = .ok (.iload 4, 2) := by decide +kernel
theorem d_Rolls_stamp_26 : decode M_Rolls_stamp.2.1 26 = .ok (.iaload, 1) := by decide +kernel
theorem d_Rolls_stamp_27 : decode M_Rolls_stamp.2.1 27 = .ok (.iload_n 3, 1) := by decide +kernel
theorem d_Rolls_stamp_28 : decode M_Rolls_stamp.2.1 28 = .ok (.if_icmp .ne 5, 3) := by decide +kernel
theorem d_Rolls_stamp_31 : decode M_Rolls_stamp.2.1 31 = .ok (.iconst 0, 1) := by decide +kernel
theorem d_Rolls_stamp_32 : decode M_Rolls_stamp.2.1 32 = .ok (.ireturn, 1) := by decide +kernel
theorem d_Rolls_stamp_33 : decode M_Rolls_stamp.2.1 33 = .ok (.aload_n 0, 1) := by decide +kernel
theorem d_Rolls_stamp_34 : decode M_Rolls_stamp.2.1 34 = .ok (.getfield 24, 3) := by decide +kernel
theorem d_Rolls_stamp_37 : decode M_Rolls_stamp.2.1 37 = .ok (.iload 4, 2) := by decide +kernel
theorem d_Rolls_stamp_39 : decode M_Rolls_stamp.2.1 39 = .ok (.iload_n 3, 1) := by decide +kernel
theorem d_Rolls_stamp_40 : decode M_Rolls_stamp.2.1 40 = .ok (.iastore, 1) := by decide +kernel
theorem d_Rolls_stamp_41 : decode M_Rolls_stamp.2.1 41 = .ok (.aload_n 0, 1) := by decide +kernel
theorem d_Rolls_stamp_42 : decode M_Rolls_stamp.2.1 42 = .ok (.getfield 61, 3) := by decide +kernel
theorem d_Rolls_stamp_45 : decode M_Rolls_stamp.2.1 45 = .ok (.bipush 60, 2) := by decide +kernel
theorem d_Rolls_stamp_47 : decode M_Rolls_stamp.2.1 47 = .ok (.invokestatic 64, 3) := by decide +kernel
theorem d_Rolls_stamp_50 : decode M_Rolls_stamp.2.1 50 = .ok (.ifCond .eq 14, 3) := by decide +kernel
theorem d_Rolls_stamp_53 : decode M_Rolls_stamp.2.1 53 = .ok (.aload_n 0, 1) := by decide +kernel
theorem d_Rolls_stamp_54 : decode M_Rolls_stamp.2.1 54 = .ok (.getfield 30, 3) := by decide +kernel
theorem d_Rolls_stamp_57 : decode M_Rolls_stamp.2.1 57 = .ok (.aload_n 0, 1) := by decide +kernel
theorem d_Rolls_stamp_58 : decode M_Rolls_stamp.2.1 58 = .ok (.getfield 61, 3) := by decide +kernel
theorem d_Rolls_stamp_61 : decode M_Rolls_stamp.2.1 61 = .ok (.iload 4, 2) := by decide +kernel
theorem d_Rolls_stamp_63 : decode M_Rolls_stamp.2.1 63 = .ok (.iastore, 1) := by decide +kernel
theorem d_Rolls_stamp_64 : decode M_Rolls_stamp.2.1 64 = .ok (.aload_n 0, 1) := by decide +kernel
theorem d_Rolls_stamp_65 : decode M_Rolls_stamp.2.1 65 = .ok (.aload_n 0, 1) := by decide +kernel
theorem d_Rolls_stamp_66 : decode M_Rolls_stamp.2.1 66 = .ok (.getfield 61, 3) := by decide +kernel
theorem d_Rolls_stamp_69 : decode M_Rolls_stamp.2.1 69 = .ok (.iconst 1, 1) := by decide +kernel
theorem d_Rolls_stamp_70 : decode M_Rolls_stamp.2.1 70 = .ok (.iadd, 1) := by decide +kernel
theorem d_Rolls_stamp_71 : decode M_Rolls_stamp.2.1 71 = .ok (.bipush 60, 2) := by decide +kernel
theorem d_Rolls_stamp_73 : decode M_Rolls_stamp.2.1 73 = .ok (.if_icmp .ge 12, 3) := by decide +kernel
theorem d_Rolls_stamp_76 : decode M_Rolls_stamp.2.1 76 = .ok (.aload_n 0, 1) := by decide +kernel
theorem d_Rolls_stamp_77 : decode M_Rolls_stamp.2.1 77 = .ok (.getfield 61, 3) := by decide +kernel
theorem d_Rolls_stamp_80 : decode M_Rolls_stamp.2.1 80 = .ok (.iconst 1, 1) := by decide +kernel
theorem d_Rolls_stamp_81 : decode M_Rolls_stamp.2.1 81 = .ok (.iadd, 1) := by decide +kernel
theorem d_Rolls_stamp_82 : decode M_Rolls_stamp.2.1 82 = .ok (.goto 4, 3) := by decide +kernel
theorem d_Rolls_stamp_85 : decode M_Rolls_stamp.2.1 85 = .ok (.iconst 0, 1) := by decide +kernel
theorem d_Rolls_stamp_86 : decode M_Rolls_stamp.2.1 86 = .ok (.putfield 61, 3) := by decide +kernel
theorem d_Rolls_stamp_89 : decode M_Rolls_stamp.2.1 89 = .ok (.aload_n 0, 1) := by decide +kernel
theorem d_Rolls_stamp_90 : decode M_Rolls_stamp.2.1 90 = .ok (.bipush 60, 2) := by decide +kernel
theorem d_Rolls_stamp_92 : decode M_Rolls_stamp.2.1 92 = .ok (.aload_n 0, 1) := by decide +kernel
theorem d_Rolls_stamp_93 : decode M_Rolls_stamp.2.1 93 = .ok (.getfield 58, 3) := by decide +kernel
theorem d_Rolls_stamp_96 : decode M_Rolls_stamp.2.1 96 = .ok (.iconst 1, 1) := by decide +kernel
theorem d_Rolls_stamp_97 : decode M_Rolls_stamp.2.1 97 = .ok (.iadd, 1) := by decide +kernel
theorem d_Rolls_stamp_98 : decode M_Rolls_stamp.2.1 98 = .ok (.invokestatic 82, 3) := by decide +kernel
theorem d_Rolls_stamp_101 : decode M_Rolls_stamp.2.1 101 = .ok (.putfield 58, 3) := by decide +kernel
theorem d_Rolls_stamp_104 : decode M_Rolls_stamp.2.1 104 = .ok (.iconst 1, 1) := by decide +kernel
theorem d_Rolls_stamp_105 : decode M_Rolls_stamp.2.1 105 = .ok (.ireturn, 1) := by decide +kernel
theorem d_Ww_decree_0 : decode M_Ww_decree.2.1 0 = .ok (.iload_n 1, 1) := by decide +kernel
theorem d_Ww_decree_1 : decode M_Ww_decree.2.1 1 = .ok (.bipush 30, 2) := by decide +kernel
theorem d_Ww_decree_3 : decode M_Ww_decree.2.1 3 = .ok (.invokestatic 80, 3) := by decide +kernel
theorem d_Ww_decree_6 : decode M_Ww_decree.2.1 6 = .ok (.ifCond .eq 11, 3) := by decide +kernel
theorem d_Ww_decree_9 : decode M_Ww_decree.2.1 9 = .ok (.iload_n 2, 1) := by decide +kernel
theorem d_Ww_decree_10 : decode M_Ww_decree.2.1 10 = .ok (.iconst 4, 1) := by decide +kernel
theorem d_Ww_decree_11 : decode M_Ww_decree.2.1 11 = .ok (.invokestatic 80, 3) := by decide +kernel
theorem d_Ww_decree_14 : decode M_Ww_decree.2.1 14 = .ok (.ifCond .ne 5, 3) := by decide +kernel
theorem d_Ww_decree_17 : decode M_Ww_decree.2.1 17 = .ok (.iconst 0, 1) := by decide +kernel
theorem d_Ww_decree_18 : decode M_Ww_decree.2.1 18 = .ok (.ireturn, 1) := by decide +kernel
theorem d_Ww_decree_19 : decode M_Ww_decree.2.1 19 = .ok (.aload_n 0, 1) := by decide +kernel
theorem d_Ww_decree_20 : decode M_Ww_decree.2.1 20 = .ok (.getfield 10, 3) := by decide +kernel
theorem d_Ww_decree_23 : decode M_Ww_decree.2.1 23 = .ok (.iload_n 1, 1) := by decide +kernel
theorem d_Ww_decree_24 : decode M_Ww_decree.2.1 24 = .ok (.iload_n 2, 1) := by decide +kernel
theorem d_Ww_decree_25 : decode M_Ww_decree.2.1 25 = .ok (.iload_n 3, 1) := by decide +kernel
theorem d_Ww_decree_26 : decode M_Ww_decree.2.1 26 = .ok (.ifCond .eq 7, 3) := by decide +kernel
theorem d_Ww_decree_29 : decode M_Ww_decree.2.1 29 = .ok (.iconst 1, 1) := by decide +kernel
theorem d_Ww_decree_30 : decode M_Ww_decree.2.1 30 = .ok (.goto 4, 3) := by decide +kernel
theorem d_Ww_decree_33 : decode M_Ww_decree.2.1 33 = .ok (.iconst 0, 1) := by decide +kernel
theorem d_Ww_decree_34 : decode M_Ww_decree.2.1 34 = .ok (.invokevirtual 96, 3) := by decide +kernel
theorem d_Ww_decree_37 : decode M_Ww_decree.2.1 37 = .ok (.pop, 1) := by decide +kernel
theorem d_Ww_decree_38 : decode M_Ww_decree.2.1 38 = .ok (.iconst 1, 1) := by decide +kernel
theorem d_Ww_decree_39 : decode M_Ww_decree.2.1 39 = .ok (.ireturn, 1) := by decide +kernel
theorem d_Ww_chance_0 : decode M_Ww_chance.2.1 0 = .ok (.iload_n 1, 1) := by decide +kernel
theorem d_Ww_chance_1 : decode M_Ww_chance.2.1 1 = .ok (.bipush 10, 2) := by decide +kernel
theorem d_Ww_chance_3 : decode M_Ww_chance.2.1 3 = .ok (.invokestatic 80, 3) := by decide +kernel
theorem d_Ww_chance_6 : decode M_Ww_chance.2.1 6 = .ok (.ifCond .eq 12, 3) := by decide +kernel
theorem d_Ww_chance_9 : decode M_Ww_chance.2.1 9 = .ok (.iload_n 2, 1) := by decide +kernel
theorem d_Ww_chance_10 : decode M_Ww_chance.2.1 10 = .ok (.bipush 10, 2) := by decide +kernel
theorem d_Ww_chance_12 : decode M_Ww_chance.2.1 12 = .ok (.invokestatic 80, 3) := by decide +kernel
theorem d_Ww_chance_15 : decode M_Ww_chance.2.1 15 = .ok (.ifCond .ne 5, 3) := by decide +kernel
theorem d_Ww_chance_18 : decode M_Ww_chance.2.1 18 = .ok (.iconst 0, 1) := by decide +kernel
theorem d_Ww_chance_19 : decode M_Ww_chance.2.1 19 = .ok (.ireturn, 1) := by decide +kernel
theorem d_Ww_chance_20 : decode M_Ww_chance.2.1 20 = .ok (.aload_n 0, 1) := by decide +kernel
theorem d_Ww_chance_21 : decode M_Ww_chance.2.1 21 = .ok (.getfield 10, 3) := by decide +kernel
theorem d_Ww_chance_24 : decode M_Ww_chance.2.1 24 = .ok (.getfield 100, 3) := by decide +kernel
theorem d_Ww_chance_27 : decode M_Ww_chance.2.1 27 = .ok (.iload_n 1, 1) := by decide +kernel
theorem d_Ww_chance_28 : decode M_Ww_chance.2.1 28 = .ok (.iload_n 2, 1) := by decide +kernel
theorem d_Ww_chance_29 : decode M_Ww_chance.2.1 29 = .ok (.iastore, 1) := by decide +kernel
theorem d_Ww_chance_30 : decode M_Ww_chance.2.1 30 = .ok (.iconst 1, 1) := by decide +kernel
theorem d_Ww_chance_31 : decode M_Ww_chance.2.1 31 = .ok (.ireturn, 1) := by decide +kernel
theorem d_Ww_ruin_0 : decode M_Ww_ruin.2.1 0 = .ok (.iload_n 1, 1) := by decide +kernel
theorem d_Ww_ruin_1 : decode M_Ww_ruin.2.1 1 = .ok (.sipush 10000, 3) := by decide +kernel
theorem d_Ww_ruin_4 : decode M_Ww_ruin.2.1 4 = .ok (.invokestatic 80, 3) := by decide +kernel
theorem d_Ww_ruin_7 : decode M_Ww_ruin.2.1 7 = .ok (.ifCond .ne 5, 3) := by decide +kernel
theorem d_Ww_ruin_10 : decode M_Ww_ruin.2.1 10 = .ok (.iconst 0, 1) := by decide +kernel
theorem d_Ww_ruin_11 : decode M_Ww_ruin.2.1 11 = .ok (.ireturn, 1) := by decide +kernel
theorem d_Ww_ruin_12 : decode M_Ww_ruin.2.1 12 = .ok (.aload_n 0, 1) := by decide +kernel
theorem d_Ww_ruin_13 : decode M_Ww_ruin.2.1 13 = .ok (.getfield 10, 3) := by decide +kernel
theorem d_Ww_ruin_16 : decode M_Ww_ruin.2.1 16 = .ok (.iload_n 1, 1) := by decide +kernel
theorem d_Ww_ruin_17 : decode M_Ww_ruin.2.1 17 = .ok (.putfield 103, 3) := by decide +kernel
theorem d_Ww_ruin_20 : decode M_Ww_ruin.2.1 20 = .ok (.iconst 1, 1) := by decide +kernel
theorem d_Ww_ruin_21 : decode M_Ww_ruin.2.1 21 = .ok (.ireturn, 1) := by decide +kernel
theorem d_Tape_put_0 : decode M_Tape_put.2.1 0 = .ok (.bipush 24, 2) := by decide +kernel
theorem d_Tape_put_2 : decode M_Tape_put.2.1 2 = .ok (.istore_n 2, 1) := by decide +kernel
theorem d_Tape_put_3 : decode M_Tape_put.2.1 3 = .ok (.iload_n 2, 1) := by decide +kernel
theorem d_Tape_put_4 : decode M_Tape_put.2.1 4 = .ok (.ifCond .lt 48, 3) := by decide +kernel
theorem d_Tape_put_7 : decode M_Tape_put.2.1 7 = .ok (.aload_n 0, 1) := by decide +kernel
theorem d_Tape_put_8 : decode M_Tape_put.2.1 8 = .ok (.getfield 15, 3) := by decide +kernel
theorem d_Tape_put_11 : decode M_Tape_put.2.1 11 = .ok (.sipush 300, 3) := by decide +kernel
theorem d_Tape_put_14 : decode M_Tape_put.2.1 14 = .ok (.invokestatic 19, 3) := by decide +kernel
theorem d_Tape_put_17 : decode M_Tape_put.2.1 17 = .ok (.ifCond .eq 35, 3) := by decide +kernel
theorem d_Tape_put_20 : decode M_Tape_put.2.1 20 = .ok (.aload_n 0, 1) := by decide +kernel
theorem d_Tape_put_21 : decode M_Tape_put.2.1 21 = .ok (.getfield 9, 3) := by decide +kernel
theorem d_Tape_put_24 : decode M_Tape_put.2.1 24 = .ok (.aload_n 0, 1) := by decide +kernel
theorem d_Tape_put_25 : decode M_Tape_put.2.1 25 = .ok (.getfield 15, 3) := by decide +kernel
theorem d_Tape_put_28 : decode M_Tape_put.2.1 28 = .ok (.iload_n 1, 1) := by decide +kernel
theorem d_Tape_put_29 : decode M_Tape_put.2.1 29 = .ok (.iload_n 2, 1) := by decide +kernel
theorem d_Tape_put_30 : decode M_Tape_put.2.1 30 = .ok (.ishr, 1) := by decide +kernel
theorem d_Tape_put_31 : decode M_Tape_put.2.1 31 = .ok (.sipush 255, 3) := by decide +kernel
theorem d_Tape_put_34 : decode M_Tape_put.2.1 34 = .ok (.iand, 1) := by decide +kernel
theorem d_Tape_put_35 : decode M_Tape_put.2.1 35 = .ok (.iastore, 1) := by decide +kernel
theorem d_Tape_put_36 : decode M_Tape_put.2.1 36 = .ok (.aload_n 0, 1) := by decide +kernel
theorem d_Tape_put_37 : decode M_Tape_put.2.1 37 = .ok (.dup, 1) := by decide +kernel
theorem d_Tape_put_38 : decode M_Tape_put.2.1 38 = .ok (.getfield 15, 3) := by decide +kernel
theorem d_Tape_put_41 : decode M_Tape_put.2.1 41 = .ok (.iconst 1, 1) := by decide +kernel
theorem d_Tape_put_42 : decode M_Tape_put.2.1 42 = .ok (.iadd, 1) := by decide +kernel
theorem d_Tape_put_43 : decode M_Tape_put.2.1 43 = .ok (.putfield 15, 3) := by decide +kernel
theorem d_Tape_put_46 : decode M_Tape_put.2.1 46 = .ok (.iinc 2 (-8), 3) := by decide +kernel
theorem d_Tape_put_49 : decode M_Tape_put.2.1 49 = .ok (.goto (-46), 3) := by decide +kernel
theorem d_Tape_put_52 : decode M_Tape_put.2.1 52 = .ok (.return_, 1) := by decide +kernel
theorem d_Ww_feed_0 : decode M_Ww_feed.2.1 0 = .ok (.aload_n 0, 1) := by decide +kernel
theorem d_Ww_feed_1 : decode M_Ww_feed.2.1 1 = .ok (.getfield 22, 3) := by decide +kernel
theorem d_Ww_feed_4 : decode M_Ww_feed.2.1 4 = .ok (.getfield 107, 3) := by decide +kernel
theorem d_Ww_feed_7 : decode M_Ww_feed.2.1 7 = .ok (.bipush 20, 2) := by decide +kernel
theorem d_Ww_feed_9 : decode M_Ww_feed.2.1 9 = .ok (.iadd, 1) := by decide +kernel
theorem d_Ww_feed_10 : decode M_Ww_feed.2.1 10 = .ok (.sipush 300, 3) := by decide +kernel
theorem d_Ww_feed_13 : decode M_Ww_feed.2.1 13 = .ok (.if_icmp .le 5, 3) := by decide +kernel
theorem d_Ww_feed_16 : decode M_Ww_feed.2.1 16 = .ok (.iconst (-1), 1) := by decide +kernel
theorem d_Ww_feed_17 : decode M_Ww_feed.2.1 17 = .ok (.ireturn, 1) := by decide +kernel
theorem d_Ww_feed_18 : decode M_Ww_feed.2.1 18 = .ok (.aload_n 0, 1) := by decide +kernel
theorem d_Ww_feed_19 : decode M_Ww_feed.2.1 19 = .ok (.getfield 22, 3) := by decide +kernel
theorem d_Ww_feed_22 : decode M_Ww_feed.2.1 22 = .ok (.iload_n 1, 1) := by decide +kernel
theorem d_Ww_feed_23 : decode M_Ww_feed.2.1 23 = .ok (.invokevirtual 110, 3) := by decide +kernel
theorem d_Ww_feed_26 : decode M_Ww_feed.2.1 26 = .ok (.aload_n 0, 1) := by decide +kernel
theorem d_Ww_feed_27 : decode M_Ww_feed.2.1 27 = .ok (.getfield 22, 3) := by decide +kernel
theorem d_Ww_feed_30 : decode M_Ww_feed.2.1 30 = .ok (.iload_n 2, 1) := by decide +kernel
theorem d_Ww_feed_31 : decode M_Ww_feed.2.1 31 = .ok (.invokevirtual 110, 3) := by decide +kernel
theorem d_Ww_feed_34 : decode M_Ww_feed.2.1 34 = .ok (.aload_n 0, 1) := by decide +kernel
theorem d_Ww_feed_35 : decode M_Ww_feed.2.1 35 = .ok (.getfield 22, 3) := by decide +kernel
theorem d_Ww_feed_38 : decode M_Ww_feed.2.1 38 = .ok (.iload_n 3, 1) := by decide +kernel
theorem d_Ww_feed_39 : decode M_Ww_feed.2.1 39 = .ok (.invokevirtual 110, 3) := by decide +kernel
theorem d_Ww_feed_42 : decode M_Ww_feed.2.1 42 = .ok (.aload_n 0, 1) := by decide +kernel
theorem d_Ww_feed_43 : decode M_Ww_feed.2.1 43 = .ok (.getfield 22, 3) := by decide +kernel
theorem d_Ww_feed_46 : decode M_Ww_feed.2.1 46 = .ok (.iload 4, 2) := by decide +kernel
theorem d_Ww_feed_48 : decode M_Ww_feed.2.1 48 = .ok (.invokevirtual 110, 3) := by decide +kernel
theorem d_Ww_feed_51 : decode M_Ww_feed.2.1 51 = .ok (.aload_n 0, 1) := by decide +kernel
theorem d_Ww_feed_52 : decode M_Ww_feed.2.1 52 = .ok (.getfield 22, 3) := by decide +kernel
theorem d_Ww_feed_55 : decode M_Ww_feed.2.1 55 = .ok (.iload 5, 2) := by decide +kernel
theorem d_Ww_feed_57 : decode M_Ww_feed.2.1 57 = .ok (.invokevirtual 110, 3) := by decide +kernel
theorem d_Ww_feed_60 : decode M_Ww_feed.2.1 60 = .ok (.aload_n 0, 1) := by decide +kernel
theorem d_Ww_feed_61 : decode M_Ww_feed.2.1 61 = .ok (.getfield 22, 3) := by decide +kernel
theorem d_Ww_feed_64 : decode M_Ww_feed.2.1 64 = .ok (.getfield 107, 3) := by decide +kernel
theorem d_Ww_feed_67 : decode M_Ww_feed.2.1 67 = .ok (.ireturn, 1) := by decide +kernel
theorem d_Ww_end_0 : decode M_Ww_end.2.1 0 = .ok (.iload_n 1, 1) := by decide +kernel
theorem d_Ww_end_1 : decode M_Ww_end.2.1 1 = .ok (.ifCond .lt 14, 3) := by decide +kernel
theorem d_Ww_end_4 : decode M_Ww_end.2.1 4 = .ok (.iload_n 1, 1) := by decide +kernel
theorem d_Ww_end_5 : decode M_Ww_end.2.1 5 = .ok (.aload_n 0, 1) := by decide +kernel
theorem d_Ww_end_6 : decode M_Ww_end.2.1 6 = .ok (.getfield 22, 3) := by decide +kernel
theorem d_Ww_end_9 : decode M_Ww_end.2.1 9 = .ok (.getfield 107, 3) := by decide +kernel
theorem d_Ww_end_12 : decode M_Ww_end.2.1 12 = .ok (.if_icmp .le 5, 3) := by decide +kernel
theorem d_Ww_end_15 : decode M_Ww_end.2.1 15 = .ok (.iconst (-1), 1) := by decide +kernel
theorem d_Ww_end_16 : decode M_Ww_end.2.1 16 = .ok (.ireturn, 1) := by decide +kernel
theorem d_Ww_end_17 : decode M_Ww_end.2.1 17 = .ok (.aload_n 0, 1) := by decide +kernel
theorem d_Ww_end_18 : decode M_Ww_end.2.1 18 = .ok (.getfield 22, 3) := by decide +kernel
theorem d_Ww_end_21 : decode M_Ww_end.2.1 21 = .ok (.iload_n 1, 1) := by decide +kernel
theorem d_Ww_end_22 : decode M_Ww_end.2.1 22 = .ok (.putfield 107, 3) := by decide +kernel
theorem d_Ww_end_25 : decode M_Ww_end.2.1 25 = .ok (.iload_n 1, 1) := by decide +kernel
theorem d_Ww_end_26 : decode M_Ww_end.2.1 26 = .ok (.ireturn, 1) := by decide +kernel
theorem d_Shelf_at_0 : decode M_Shelf_at.2.1 0 = .ok (.iload_n 1, 1) := by decide +kernel
theorem d_Shelf_at_1 : decode M_Shelf_at.2.1 1 = .ok (.iconst 4, 1) := by decide +kernel
theorem d_Shelf_at_2 : decode M_Shelf_at.2.1 2 = .ok (.invokestatic 26, 3) := by decide +kernel
theorem d_Shelf_at_5 : decode M_Shelf_at.2.1 5 = .ok (.ifCond .eq 12, 3) := by decide +kernel
theorem d_Shelf_at_8 : decode M_Shelf_at.2.1 8 = .ok (.aload_n 0, 1) := by decide +kernel
theorem d_Shelf_at_9 : decode M_Shelf_at.2.1 9 = .ok (.getfield 18, 3) := by decide +kernel
theorem d_Shelf_at_12 : decode M_Shelf_at.2.1 12 = .ok (.iload_n 1, 1) := by decide +kernel
theorem d_Shelf_at_13 : decode M_Shelf_at.2.1 13 = .ok (.aaload, 1) := by decide +kernel
theorem d_Shelf_at_14 : decode M_Shelf_at.2.1 14 = .ok (.goto 4, 3) := by decide +kernel
theorem d_Shelf_at_17 : decode M_Shelf_at.2.1 17 = .ok (.aconst_null, 1) := by decide +kernel
theorem d_Shelf_at_18 : decode M_Shelf_at.2.1 18 = .ok (.areturn, 1) := by decide +kernel
theorem d_Law_clear_0 : decode M_Law_clear.2.1 0 = .ok (.aload_n 0, 1) := by decide +kernel
theorem d_Law_clear_1 : decode M_Law_clear.2.1 1 = .ok (.getfield 15, 3) := by decide +kernel
theorem d_Law_clear_4 : decode M_Law_clear.2.1 4 = .ok (.iconst 0, 1) := by decide +kernel
theorem d_Law_clear_5 : decode M_Law_clear.2.1 5 = .ok (.invokestatic 24, 3) := by decide +kernel
theorem d_Law_clear_8 : decode M_Law_clear.2.1 8 = .ok (.aload_n 0, 1) := by decide +kernel
theorem d_Law_clear_9 : decode M_Law_clear.2.1 9 = .ok (.getfield 18, 3) := by decide +kernel
theorem d_Law_clear_12 : decode M_Law_clear.2.1 12 = .ok (.iconst 0, 1) := by decide +kernel
theorem d_Law_clear_13 : decode M_Law_clear.2.1 13 = .ok (.invokestatic 24, 3) := by decide +kernel
theorem d_Law_clear_16 : decode M_Law_clear.2.1 16 = .ok (.aload_n 0, 1) := by decide +kernel
theorem d_Law_clear_17 : decode M_Law_clear.2.1 17 = .ok (.iconst 0, 1) := by decide +kernel
theorem d_Law_clear_18 : decode M_Law_clear.2.1 18 = .ok (.putfield 30, 3) := by decide +kernel
theorem d_Law_clear_21 : decode M_Law_clear.2.1 21 = .ok (.aload_n 0, 1) := by decide +kernel
theorem d_Law_clear_22 : decode M_Law_clear.2.1 22 = .ok (.iconst 0, 1) := by decide +kernel
theorem d_Law_clear_23 : decode M_Law_clear.2.1 23 = .ok (.putfield 34, 3) := by decide +kernel
theorem d_Law_clear_26 : decode M_Law_clear.2.1 26 = .ok (.return_, 1) := by decide +kernel
theorem d_Tokens_put_0 : decode M_Tokens_put.2.1 0 = .ok (.aload_n 0, 1) := by decide +kernel
theorem d_Tokens_put_1 : decode M_Tokens_put.2.1 1 = .ok (.getfield 21, 3) := by decide +kernel
theorem d_Tokens_put_4 : decode M_Tokens_put.2.1 4 = .ok (.aload_n 0, 1) := by decide +kernel
theorem d_Tokens_put_5 : decode M_Tokens_put.2.1 5 = .ok (.getfield 9, 3) := by decide +kernel
theorem d_Tokens_put_8 : decode M_Tokens_put.2.1 8 = .ok (.arraylength, 1) := by decide +kernel
theorem d_Tokens_put_9 : decode M_Tokens_put.2.1 9 = .ok (.invokestatic 51, 3) := by decide +kernel
theorem d_Tokens_put_12 : decode M_Tokens_put.2.1 12 = .ok (.ifCond .eq 43, 3) := by decide +kernel
theorem d_Tokens_put_15 : decode M_Tokens_put.2.1 15 = .ok (.aload_n 0, 1) := by decide +kernel
theorem d_Tokens_put_16 : decode M_Tokens_put.2.1 16 = .ok (.getfield 9, 3) := by decide +kernel
theorem d_Tokens_put_19 : decode M_Tokens_put.2.1 19 = .ok (.aload_n 0, 1) := by decide +kernel
theorem d_Tokens_put_20 : decode M_Tokens_put.2.1 20 = .ok (.getfield 21, 3) := by decide +kernel
theorem d_Tokens_put_23 : decode M_Tokens_put.2.1 23 = .ok (.iload_n 1, 1) := by decide +kernel
theorem d_Tokens_put_24 : decode M_Tokens_put.2.1 24 = .ok (.iastore, 1) := by decide +kernel
theorem d_Tokens_put_25 : decode M_Tokens_put.2.1 25 = .ok (.aload_n 0, 1) := by decide +kernel
theorem d_Tokens_put_26 : decode M_Tokens_put.2.1 26 = .ok (.getfield 15, 3) := by decide +kernel
theorem d_Tokens_put_29 : decode M_Tokens_put.2.1 29 = .ok (.aload_n 0, 1) := by decide +kernel
theorem d_Tokens_put_30 : decode M_Tokens_put.2.1 30 = .ok (.getfield 21, 3) := by decide +kernel
theorem d_Tokens_put_33 : decode M_Tokens_put.2.1 33 = .ok (.iload_n 2, 1) := by decide +kernel
theorem d_Tokens_put_34 : decode M_Tokens_put.2.1 34 = .ok (.iastore, 1) := by decide +kernel
theorem d_Tokens_put_35 : decode M_Tokens_put.2.1 35 = .ok (.aload_n 0, 1) := by decide +kernel
theorem d_Tokens_put_36 : decode M_Tokens_put.2.1 36 = .ok (.getfield 18, 3) := by decide +kernel
theorem d_Tokens_put_39 : decode M_Tokens_put.2.1 39 = .ok (.aload_n 0, 1) := by decide +kernel
theorem d_Tokens_put_40 : decode M_Tokens_put.2.1 40 = .ok (.getfield 21, 3) := by decide +kernel
theorem d_Tokens_put_43 : decode M_Tokens_put.2.1 43 = .ok (.iload_n 3, 1) := by decide +kernel
theorem d_Tokens_put_44 : decode M_Tokens_put.2.1 44 = .ok (.iastore, 1) := by decide +kernel
theorem d_Tokens_put_45 : decode M_Tokens_put.2.1 45 = .ok (.aload_n 0, 1) := by decide +kernel
theorem d_Tokens_put_46 : decode M_Tokens_put.2.1 46 = .ok (.dup, 1) := by decide +kernel
theorem d_Tokens_put_47 : decode M_Tokens_put.2.1 47 = .ok (.getfield 21, 3) := by decide +kernel
theorem d_Tokens_put_50 : decode M_Tokens_put.2.1 50 = .ok (.iconst 1, 1) := by decide +kernel
theorem d_Tokens_put_51 : decode M_Tokens_put.2.1 51 = .ok (.iadd, 1) := by decide +kernel
theorem d_Tokens_put_52 : decode M_Tokens_put.2.1 52 = .ok (.putfield 21, 3) := by decide +kernel
theorem d_Tokens_put_55 : decode M_Tokens_put.2.1 55 = .ok (.return_, 1) := by decide +kernel
theorem d_Tape_at_0 : decode M_Tape_at.2.1 0 = .ok (.iload_n 1, 1) := by decide +kernel
theorem d_Tape_at_1 : decode M_Tape_at.2.1 1 = .ok (.aload_n 0, 1) := by decide +kernel
theorem d_Tape_at_2 : decode M_Tape_at.2.1 2 = .ok (.getfield 15, 3) := by decide +kernel
theorem d_Tape_at_5 : decode M_Tape_at.2.1 5 = .ok (.invokestatic 19, 3) := by decide +kernel
theorem d_Tape_at_8 : decode M_Tape_at.2.1 8 = .ok (.ifCond .eq 19, 3) := by decide +kernel
theorem d_Tape_at_11 : decode M_Tape_at.2.1 11 = .ok (.iload_n 1, 1) := by decide +kernel
theorem d_Tape_at_12 : decode M_Tape_at.2.1 12 = .ok (.sipush 300, 3) := by decide +kernel
theorem d_Tape_at_15 : decode M_Tape_at.2.1 15 = .ok (.if_icmp .ge 12, 3) := by decide +kernel
theorem d_Tape_at_18 : decode M_Tape_at.2.1 18 = .ok (.aload_n 0, 1) := by decide +kernel
theorem d_Tape_at_19 : decode M_Tape_at.2.1 19 = .ok (.getfield 9, 3) := by decide +kernel
theorem d_Tape_at_22 : decode M_Tape_at.2.1 22 = .ok (.iload_n 1, 1) := by decide +kernel
theorem d_Tape_at_23 : decode M_Tape_at.2.1 23 = .ok (.iaload, 1) := by decide +kernel
theorem d_Tape_at_24 : decode M_Tape_at.2.1 24 = .ok (.goto 4, 3) := by decide +kernel
theorem d_Tape_at_27 : decode M_Tape_at.2.1 27 = .ok (.iconst 0, 1) := by decide +kernel
theorem d_Tape_at_28 : decode M_Tape_at.2.1 28 = .ok (.ireturn, 1) := by decide +kernel
theorem d_Tokens_isLetter_0 : decode M_Tokens_isLetter.2.1 0 = .ok (.iload_n 0, 1) := by decide +kernel
theorem d_Tokens_isLetter_1 : decode M_Tokens_isLetter.2.1 1 = .ok (.bipush 97, 2) := by decide +kernel
theorem d_Tokens_isLetter_3 : decode M_Tokens_isLetter.2.1 3 = .ok (.if_icmp .lt 9, 3) := by decide +kernel
theorem d_Tokens_isLetter_6 : decode M_Tokens_isLetter.2.1 6 = .ok (.iload_n 0, 1) := by decide +kernel
theorem d_Tokens_isLetter_7 : decode M_Tokens_isLetter.2.1 7 = .ok (.bipush 122, 2) := by decide +kernel
theorem d_Tokens_isLetter_9 : decode M_Tokens_isLetter.2.1 9 = .ok (.if_icmp .le 15, 3) := by decide +kernel
theorem d_Tokens_isLetter_12 : decode M_Tokens_isLetter.2.1 12 = .ok (.iload_n 0, 1) := by decide +kernel
theorem d_Tokens_isLetter_13 : decode M_Tokens_isLetter.2.1 13 = .ok (.bipush 65, 2) := by decide +kernel
theorem d_Tokens_isLetter_15 : decode M_Tokens_isLetter.2.1 15 = .ok (.if_icmp .lt 13, 3) := by decide +kernel
theorem d_Tokens_isLetter_18 : decode M_Tokens_isLetter.2.1 18 = .ok (.iload_n 0, 1) := by decide +kernel
theorem d_Tokens_isLetter_19 : decode M_Tokens_isLetter.2.1 19 = .ok (.bipush 90, 2) := by decide +kernel
theorem d_Tokens_isLetter_21 : decode M_Tokens_isLetter.2.1 21 = .ok (.if_icmp .gt 7, 3) := by decide +kernel
theorem d_Tokens_isLetter_24 : decode M_Tokens_isLetter.2.1 24 = .ok (.iconst 1, 1) := by decide +kernel
theorem d_Tokens_isLetter_25 : decode M_Tokens_isLetter.2.1 25 = .ok (.goto 4, 3) := by decide +kernel
theorem d_Tokens_isLetter_28 : decode M_Tokens_isLetter.2.1 28 = .ok (.iconst 0, 1) := by decide +kernel
theorem d_Tokens_isLetter_29 : decode M_Tokens_isLetter.2.1 29 = .ok (.ireturn, 1) := by decide +kernel
theorem d_Tokens_isDigit_0 : decode M_Tokens_isDigit.2.1 0 = .ok (.iload_n 0, 1) := by decide +kernel
theorem d_Tokens_isDigit_1 : decode M_Tokens_isDigit.2.1 1 = .ok (.bipush 48, 2) := by decide +kernel
theorem d_Tokens_isDigit_3 : decode M_Tokens_isDigit.2.1 3 = .ok (.if_icmp .lt 13, 3) := by decide +kernel
theorem d_Tokens_isDigit_6 : decode M_Tokens_isDigit.2.1 6 = .ok (.iload_n 0, 1) := by decide +kernel
theorem d_Tokens_isDigit_7 : decode M_Tokens_isDigit.2.1 7 = .ok (.bipush 57, 2) := by decide +kernel
theorem d_Tokens_isDigit_9 : decode M_Tokens_isDigit.2.1 9 = .ok (.if_icmp .gt 7, 3) := by decide +kernel
theorem d_Tokens_isDigit_12 : decode M_Tokens_isDigit.2.1 12 = .ok (.iconst 1, 1) := by decide +kernel
theorem d_Tokens_isDigit_13 : decode M_Tokens_isDigit.2.1 13 = .ok (.goto 4, 3) := by decide +kernel
theorem d_Tokens_isDigit_16 : decode M_Tokens_isDigit.2.1 16 = .ok (.iconst 0, 1) := by decide +kernel
theorem d_Tokens_isDigit_17 : decode M_Tokens_isDigit.2.1 17 = .ok (.ireturn, 1) := by decide +kernel
theorem d_Tokens_stopOf_0 : decode M_Tokens_stopOf.2.1 0 = .ok (.aload_n 0, 1) := by decide +kernel
theorem d_Tokens_stopOf_1 : decode M_Tokens_stopOf.2.1 1 = .ok (.iload_n 1, 1) := by decide +kernel
theorem d_Tokens_stopOf_2 : decode M_Tokens_stopOf.2.1 2 = .ok (.invokevirtual 28, 3) := by decide +kernel
theorem d_Tokens_stopOf_5 : decode M_Tokens_stopOf.2.1 5 = .ok (.istore_n 2, 1) := by decide +kernel
theorem d_Tokens_stopOf_6 : decode M_Tokens_stopOf.2.1 6 = .ok (.iload_n 2, 1) := by decide +kernel
theorem d_Tokens_stopOf_7 : decode M_Tokens_stopOf.2.1 7 = .ok (.invokestatic 55, 3) := by decide +kernel
theorem d_Tokens_stopOf_10 : decode M_Tokens_stopOf.2.1 10 = .ok (.ifCond .ne 54, 3) := by decide +kernel
theorem d_Tokens_stopOf_13 : decode M_Tokens_stopOf.2.1 13 = .ok (.iload_n 2, 1) := by decide +kernel
theorem d_Tokens_stopOf_14 : decode M_Tokens_stopOf.2.1 14 = .ok (.invokestatic 36, 3) := by decide +kernel
theorem d_Tokens_stopOf_17 : decode M_Tokens_stopOf.2.1 17 = .ok (.ifCond .ne 47, 3) := by decide +kernel
theorem d_Tokens_stopOf_20 : decode M_Tokens_stopOf.2.1 20 = .ok (.iload_n 2, 1) := by decide +kernel
theorem d_Tokens_stopOf_21 : decode M_Tokens_stopOf.2.1 21 = .ok (.bipush 60, 2) := by decide +kernel
theorem d_Tokens_stopOf_23 : decode M_Tokens_stopOf.2.1 23 = .ok (.if_icmp .eq 9, 3) := by decide +kernel
theorem d_Tokens_stopOf_26 : decode M_Tokens_stopOf.2.1 26 = .ok (.iload_n 2, 1) := by decide +kernel
theorem d_Tokens_stopOf_27 : decode M_Tokens_stopOf.2.1 27 = .ok (.bipush 62, 2) := by decide +kernel
theorem d_Tokens_stopOf_29 : decode M_Tokens_stopOf.2.1 29 = .ok (.if_icmp .ne 19, 3) := by decide +kernel
theorem d_Tokens_stopOf_32 : decode M_Tokens_stopOf.2.1 32 = .ok (.aload_n 0, 1) := by decide +kernel
theorem d_Tokens_stopOf_33 : decode M_Tokens_stopOf.2.1 33 = .ok (.iload_n 1, 1) := by decide +kernel
theorem d_Tokens_stopOf_34 : decode M_Tokens_stopOf.2.1 34 = .ok (.iconst 1, 1) := by decide +kernel
theorem d_Tokens_stopOf_35 : decode M_Tokens_stopOf.2.1 35 = .ok (.iadd, 1) := by decide +kernel
theorem d_Tokens_stopOf_36 : decode M_Tokens_stopOf.2.1 36 = .ok (.invokevirtual 28, 3) := by decide +kernel
theorem d_Tokens_stopOf_39 : decode M_Tokens_stopOf.2.1 39 = .ok (.bipush 61, 2) := by decide +kernel
theorem d_Tokens_stopOf_41 : decode M_Tokens_stopOf.2.1 41 = .ok (.if_icmp .ne 7, 3) := by decide +kernel
theorem d_Tokens_stopOf_44 : decode M_Tokens_stopOf.2.1 44 = .ok (.iconst 1, 1) := by decide +kernel
theorem d_Tokens_stopOf_45 : decode M_Tokens_stopOf.2.1 45 = .ok (.goto 4, 3) := by decide +kernel
theorem d_Tokens_stopOf_48 : decode M_Tokens_stopOf.2.1 48 = .ok (.iconst 0, 1) := by decide +kernel
theorem d_Tokens_stopOf_49 : decode M_Tokens_stopOf.2.1 49 = .ok (.istore_n 3, 1) := by decide +kernel
theorem d_Tokens_stopOf_50 : decode M_Tokens_stopOf.2.1 50 = .ok (.iload_n 3, 1) := by decide +kernel
theorem d_Tokens_stopOf_51 : decode M_Tokens_stopOf.2.1 51 = .ok (.ifCond .eq 9, 3) := by decide +kernel
theorem d_Tokens_stopOf_54 : decode M_Tokens_stopOf.2.1 54 = .ok (.iload_n 1, 1) := by decide +kernel
theorem d_Tokens_stopOf_55 : decode M_Tokens_stopOf.2.1 55 = .ok (.iconst 2, 1) := by decide +kernel
theorem d_Tokens_stopOf_56 : decode M_Tokens_stopOf.2.1 56 = .ok (.iadd, 1) := by decide +kernel
theorem d_Tokens_stopOf_57 : decode M_Tokens_stopOf.2.1 57 = .ok (.goto 6, 3) := by decide +kernel
theorem d_Tokens_stopOf_60 : decode M_Tokens_stopOf.2.1 60 = .ok (.iload_n 1, 1) := by decide +kernel
theorem d_Tokens_stopOf_61 : decode M_Tokens_stopOf.2.1 61 = .ok (.iconst 1, 1) := by decide +kernel
theorem d_Tokens_stopOf_62 : decode M_Tokens_stopOf.2.1 62 = .ok (.iadd, 1) := by decide +kernel
theorem d_Tokens_stopOf_63 : decode M_Tokens_stopOf.2.1 63 = .ok (.ireturn, 1) := by decide +kernel
theorem d_Tokens_stopOf_64 : decode M_Tokens_stopOf.2.1 64 = .ok (.iload_n 1, 1) := by decide +kernel
theorem d_Tokens_stopOf_65 : decode M_Tokens_stopOf.2.1 65 = .ok (.istore_n 3, 1) := by decide +kernel
theorem d_Tokens_stopOf_66 : decode M_Tokens_stopOf.2.1 66 = .ok (.iload_n 3, 1) := by decide +kernel
theorem d_Tokens_stopOf_67 : decode M_Tokens_stopOf.2.1 67 = .ok (.aload_n 0, 1) := by decide +kernel
theorem d_Tokens_stopOf_68 : decode M_Tokens_stopOf.2.1 68 = .ok (.getfield 25, 3) := by decide +kernel
theorem d_Tokens_stopOf_71 : decode M_Tokens_stopOf.2.1 71 = .ok (.if_icmp .ge 44, 3) := by decide +kernel
theorem d_Tokens_stopOf_74 : decode M_Tokens_stopOf.2.1 74 = .ok (.aload_n 0, 1) := by decide +kernel
theorem d_Tokens_stopOf_75 : decode M_Tokens_stopOf.2.1 75 = .ok (.iload_n 3, 1) := by decide +kernel
theorem d_Tokens_stopOf_76 : decode M_Tokens_stopOf.2.1 76 = .ok (.invokevirtual 28, 3) := by decide +kernel
theorem d_Tokens_stopOf_79 : decode M_Tokens_stopOf.2.1 79 = .ok (.istore 4, 2) := by decide +kernel
theorem d_Tokens_stopOf_81 : decode M_Tokens_stopOf.2.1 81 = .ok (.iload_n 2, 1) := by decide +kernel
theorem d_Tokens_stopOf_82 : decode M_Tokens_stopOf.2.1 82 = .ok (.invokestatic 55, 3) := by decide +kernel
theorem d_Tokens_stopOf_85 : decode M_Tokens_stopOf.2.1 85 = .ok (.ifCond .eq 14, 3) := by decide +kernel
theorem d_Tokens_stopOf_88 : decode M_Tokens_stopOf.2.1 88 = .ok (.iload 4, 2) := by decide +kernel
theorem d_Tokens_stopOf_90 : decode M_Tokens_stopOf.2.1 90 = .ok (.invokestatic 55, 3) := by decide +kernel
theorem d_Tokens_stopOf_93 : decode M_Tokens_stopOf.2.1 93 = .ok (.ifCond .ne 16, 3) := by decide +kernel
theorem d_Tokens_stopOf_96 : decode M_Tokens_stopOf.2.1 96 = .ok (.goto 11, 3) := by decide +kernel
theorem d_Tokens_stopOf_99 : decode M_Tokens_stopOf.2.1 99 = .ok (.iload 4, 2) := by decide +kernel
theorem d_Tokens_stopOf_101 : decode M_Tokens_stopOf.2.1 101 = .ok (.invokestatic 36, 3) := by decide +kernel
theorem d_Tokens_stopOf_104 : decode M_Tokens_stopOf.2.1 104 = .ok (.ifCond .ne 5, 3) := by decide +kernel
theorem d_Tokens_stopOf_107 : decode M_Tokens_stopOf.2.1 107 = .ok (.iload_n 3, 1) := by decide +kernel
theorem d_Tokens_stopOf_108 : decode M_Tokens_stopOf.2.1 108 = .ok (.ireturn, 1) := by decide +kernel
theorem d_Tokens_stopOf_109 : decode M_Tokens_stopOf.2.1 109 = .ok (.iinc 3 1, 3) := by decide +kernel
theorem d_Tokens_stopOf_112 : decode M_Tokens_stopOf.2.1 112 = .ok (.goto (-46), 3) := by decide +kernel
theorem d_Tokens_stopOf_115 : decode M_Tokens_stopOf.2.1 115 = .ok (.aload_n 0, 1) := by decide +kernel
theorem d_Tokens_stopOf_116 : decode M_Tokens_stopOf.2.1 116 = .ok (.getfield 25, 3) := by decide +kernel
theorem d_Tokens_stopOf_119 : decode M_Tokens_stopOf.2.1 119 = .ok (.ireturn, 1) := by decide +kernel
theorem d_Tokens_numberOf_0 : decode M_Tokens_numberOf.2.1 0 = .ok (.iconst 0, 1) := by decide +kernel
theorem d_Tokens_numberOf_1 : decode M_Tokens_numberOf.2.1 1 = .ok (.istore_n 3, 1) := by decide +kernel
theorem d_Tokens_numberOf_2 : decode M_Tokens_numberOf.2.1 2 = .ok (.iload_n 1, 1) := by decide +kernel
theorem d_Tokens_numberOf_3 : decode M_Tokens_numberOf.2.1 3 = .ok (.istore 4, 2) := by decide +kernel
theorem d_Tokens_numberOf_5 : decode M_Tokens_numberOf.2.1 5 = .ok (.iload 4, 2) := by decide +kernel
theorem d_Tokens_numberOf_7 : decode M_Tokens_numberOf.2.1 7 = .ok (.iload_n 2, 1) := by decide +kernel
theorem d_Tokens_numberOf_8 : decode M_Tokens_numberOf.2.1 8 = .ok (.if_icmp .ge 30, 3) := by decide +kernel
theorem d_Tokens_numberOf_11 : decode M_Tokens_numberOf.2.1 11 = .ok (.sipush 10000, 3) := by decide +kernel
theorem d_Tokens_numberOf_14 : decode M_Tokens_numberOf.2.1 14 = .ok (.iload_n 3, 1) := by decide +kernel
theorem d_Tokens_numberOf_15 : decode M_Tokens_numberOf.2.1 15 = .ok (.bipush 10, 2) := by decide +kernel
theorem d_Tokens_numberOf_17 : decode M_Tokens_numberOf.2.1 17 = .ok (.imul, 1) := by decide +kernel
theorem d_Tokens_numberOf_18 : decode M_Tokens_numberOf.2.1 18 = .ok (.aload_n 0, 1) := by decide +kernel
theorem d_Tokens_numberOf_19 : decode M_Tokens_numberOf.2.1 19 = .ok (.iload 4, 2) := by decide +kernel
theorem d_Tokens_numberOf_21 : decode M_Tokens_numberOf.2.1 21 = .ok (.invokevirtual 28, 3) := by decide +kernel
theorem d_Tokens_numberOf_24 : decode M_Tokens_numberOf.2.1 24 = .ok (.iadd, 1) := by decide +kernel
theorem d_Tokens_numberOf_25 : decode M_Tokens_numberOf.2.1 25 = .ok (.bipush 48, 2) := by decide +kernel
theorem d_Tokens_numberOf_27 : decode M_Tokens_numberOf.2.1 27 = .ok (.isub, 1) := by decide +kernel
theorem d_Tokens_numberOf_28 : decode M_Tokens_numberOf.2.1 28 = .ok (.invokestatic 77, 3) := by decide +kernel
theorem d_Tokens_numberOf_31 : decode M_Tokens_numberOf.2.1 31 = .ok (.istore_n 3, 1) := by decide +kernel
theorem d_Tokens_numberOf_32 : decode M_Tokens_numberOf.2.1 32 = .ok (.iinc 4 1, 3) := by decide +kernel
theorem d_Tokens_numberOf_35 : decode M_Tokens_numberOf.2.1 35 = .ok (.goto (-30), 3) := by decide +kernel
theorem d_Tokens_numberOf_38 : decode M_Tokens_numberOf.2.1 38 = .ok (.iload_n 3, 1) := by decide +kernel
theorem d_Tokens_numberOf_39 : decode M_Tokens_numberOf.2.1 39 = .ok (.ireturn, 1) := by decide +kernel
theorem d_Tokens_signOf_0 : decode M_Tokens_signOf.2.1 0 = .ok (.iload_n 0, 1) := by decide +kernel
theorem d_Tokens_signOf_1 : decode M_Tokens_signOf.2.1 1 = .ok (.tableswitch 178 35 62 #[154, 178, 178, 178, 178, 169, 172, 163, 157, 178, 160, 178, 166, 178, 178, 178, 178, 178, 178, 178, 178, 178, 178, 178, 175, 127, 151, 139], 127) := by decide +kernel
theorem d_Tokens_signOf_128 : decode M_Tokens_signOf.2.1 128 = .ok (.iload_n 1, 1) := by decide +kernel
theorem d_Tokens_signOf_129 : decode M_Tokens_signOf.2.1 129 = .ok (.ifCond .eq 8, 3) := by decide +kernel
theorem d_Tokens_signOf_132 : decode M_Tokens_signOf.2.1 132 = .ok (.bipush 23, 2) := by decide +kernel
theorem d_Tokens_signOf_134 : decode M_Tokens_signOf.2.1 134 = .ok (.goto 5, 3) := by decide +kernel
theorem d_Tokens_signOf_137 : decode M_Tokens_signOf.2.1 137 = .ok (.bipush 22, 2) := by decide +kernel
theorem d_Tokens_signOf_139 : decode M_Tokens_signOf.2.1 139 = .ok (.ireturn, 1) := by decide +kernel
theorem d_Tokens_signOf_140 : decode M_Tokens_signOf.2.1 140 = .ok (.iload_n 1, 1) := by decide +kernel
theorem d_Tokens_signOf_141 : decode M_Tokens_signOf.2.1 141 = .ok (.ifCond .eq 8, 3) := by decide +kernel
theorem d_Tokens_signOf_144 : decode M_Tokens_signOf.2.1 144 = .ok (.bipush 25, 2) := by decide +kernel
theorem d_Tokens_signOf_146 : decode M_Tokens_signOf.2.1 146 = .ok (.goto 5, 3) := by decide +kernel
theorem d_Tokens_signOf_149 : decode M_Tokens_signOf.2.1 149 = .ok (.bipush 24, 2) := by decide +kernel
theorem d_Tokens_signOf_151 : decode M_Tokens_signOf.2.1 151 = .ok (.ireturn, 1) := by decide +kernel
theorem d_Tokens_signOf_152 : decode M_Tokens_signOf.2.1 152 = .ok (.bipush 26, 2) := by decide +kernel
theorem d_Tokens_signOf_154 : decode M_Tokens_signOf.2.1 154 = .ok (.ireturn, 1) := by decide +kernel
theorem d_Tokens_signOf_155 : decode M_Tokens_signOf.2.1 155 = .ok (.bipush 27, 2) := by decide +kernel
theorem d_Tokens_signOf_157 : decode M_Tokens_signOf.2.1 157 = .ok (.ireturn, 1) := by decide +kernel
theorem d_Tokens_signOf_158 : decode M_Tokens_signOf.2.1 158 = .ok (.bipush 28, 2) := by decide +kernel
theorem d_Tokens_signOf_160 : decode M_Tokens_signOf.2.1 160 = .ok (.ireturn, 1) := by decide +kernel
theorem d_Tokens_signOf_161 : decode M_Tokens_signOf.2.1 161 = .ok (.bipush 29, 2) := by decide +kernel
theorem d_Tokens_signOf_163 : decode M_Tokens_signOf.2.1 163 = .ok (.ireturn, 1) := by decide +kernel
theorem d_Tokens_signOf_164 : decode M_Tokens_signOf.2.1 164 = .ok (.bipush 30, 2) := by decide +kernel
theorem d_Tokens_signOf_166 : decode M_Tokens_signOf.2.1 166 = .ok (.ireturn, 1) := by decide +kernel
theorem d_Tokens_signOf_167 : decode M_Tokens_signOf.2.1 167 = .ok (.bipush 31, 2) := by decide +kernel
theorem d_Tokens_signOf_169 : decode M_Tokens_signOf.2.1 169 = .ok (.ireturn, 1) := by decide +kernel
theorem d_Tokens_signOf_170 : decode M_Tokens_signOf.2.1 170 = .ok (.bipush 32, 2) := by decide +kernel
theorem d_Tokens_signOf_172 : decode M_Tokens_signOf.2.1 172 = .ok (.ireturn, 1) := by decide +kernel
theorem d_Tokens_signOf_173 : decode M_Tokens_signOf.2.1 173 = .ok (.bipush 33, 2) := by decide +kernel
theorem d_Tokens_signOf_175 : decode M_Tokens_signOf.2.1 175 = .ok (.ireturn, 1) := by decide +kernel
theorem d_Tokens_signOf_176 : decode M_Tokens_signOf.2.1 176 = .ok (.bipush 34, 2) := by decide +kernel
theorem d_Tokens_signOf_178 : decode M_Tokens_signOf.2.1 178 = .ok (.ireturn, 1) := by decide +kernel
theorem d_Tokens_signOf_179 : decode M_Tokens_signOf.2.1 179 = .ok (.bipush 36, 2) := by decide +kernel
theorem d_Tokens_signOf_181 : decode M_Tokens_signOf.2.1 181 = .ok (.ireturn, 1) := by decide +kernel
theorem d_Tokens_wordOf_0 : decode M_Tokens_wordOf.2.1 0 = .ok (.iconst 0, 1) := by decide +kernel
theorem d_Tokens_wordOf_1 : decode M_Tokens_wordOf.2.1 1 = .ok (.istore_n 3, 1) := by decide +kernel
theorem d_Tokens_wordOf_2 : decode M_Tokens_wordOf.2.1 2 = .ok (.iload_n 1, 1) := by decide +kernel
theorem d_Tokens_wordOf_3 : decode M_Tokens_wordOf.2.1 3 = .ok (.istore 4, 2) := by decide +kernel
theorem d_Tokens_wordOf_5 : decode M_Tokens_wordOf.2.1 5 = .ok (.iconst 1, 1) := by decide +kernel
theorem d_Tokens_wordOf_6 : decode M_Tokens_wordOf.2.1 6 = .ok (.istore 5, 2) := by decide +kernel
theorem d_Tokens_wordOf_8 : decode M_Tokens_wordOf.2.1 8 = .ok (.iconst 0, 1) := by decide +kernel
theorem d_Tokens_wordOf_9 : decode M_Tokens_wordOf.2.1 9 = .ok (.istore 6, 2) := by decide +kernel
theorem d_Tokens_wordOf_11 : decode M_Tokens_wordOf.2.1 11 = .ok (.iload 6, 2) := by decide +kernel
theorem d_Tokens_wordOf_13 : decode M_Tokens_wordOf.2.1 13 = .ok (.ldc 65, 2) := by decide +kernel
theorem d_Tokens_wordOf_15 : decode M_Tokens_wordOf.2.1 15 = .ok (.invokevirtual 67, 3) := by decide +kernel
theorem d_Tokens_wordOf_18 : decode M_Tokens_wordOf.2.1 18 = .ok (.if_icmp .ge 82, 3) := by decide +kernel
theorem d_Tokens_wordOf_21 : decode M_Tokens_wordOf.2.1 21 = .ok (.ldc 65, 2) := by decide +kernel
theorem d_Tokens_wordOf_23 : decode M_Tokens_wordOf.2.1 23 = .ok (.iload 6, 2) := by decide +kernel
theorem d_Tokens_wordOf_25 : decode M_Tokens_wordOf.2.1 25 = .ok (.invokevirtual 73, 3) := by decide +kernel
theorem d_Tokens_wordOf_28 : decode M_Tokens_wordOf.2.1 28 = .ok (.istore 7, 2) := by decide +kernel
theorem d_Tokens_wordOf_30 : decode M_Tokens_wordOf.2.1 30 = .ok (.iload 7, 2) := by decide +kernel
theorem d_Tokens_wordOf_32 : decode M_Tokens_wordOf.2.1 32 = .ok (.bipush 32, 2) := by decide +kernel
theorem d_Tokens_wordOf_34 : decode M_Tokens_wordOf.2.1 34 = .ok (.if_icmp .eq 38, 3) := by decide +kernel
theorem d_Tokens_wordOf_37 : decode M_Tokens_wordOf.2.1 37 = .ok (.iload 5, 2) := by decide +kernel
theorem d_Tokens_wordOf_39 : decode M_Tokens_wordOf.2.1 39 = .ok (.ifCond .eq 24, 3) := by decide +kernel
theorem d_Tokens_wordOf_42 : decode M_Tokens_wordOf.2.1 42 = .ok (.iload 4, 2) := by decide +kernel
theorem d_Tokens_wordOf_44 : decode M_Tokens_wordOf.2.1 44 = .ok (.iload_n 2, 1) := by decide +kernel
theorem d_Tokens_wordOf_45 : decode M_Tokens_wordOf.2.1 45 = .ok (.if_icmp .ge 18, 3) := by decide +kernel
theorem d_Tokens_wordOf_48 : decode M_Tokens_wordOf.2.1 48 = .ok (.aload_n 0, 1) := by decide +kernel
theorem d_Tokens_wordOf_49 : decode M_Tokens_wordOf.2.1 49 = .ok (.iload 4, 2) := by decide +kernel
theorem d_Tokens_wordOf_51 : decode M_Tokens_wordOf.2.1 51 = .ok (.invokevirtual 28, 3) := by decide +kernel
theorem d_Tokens_wordOf_54 : decode M_Tokens_wordOf.2.1 54 = .ok (.iload 7, 2) := by decide +kernel
theorem d_Tokens_wordOf_56 : decode M_Tokens_wordOf.2.1 56 = .ok (.if_icmp .ne 7, 3) := by decide +kernel
theorem d_Tokens_wordOf_59 : decode M_Tokens_wordOf.2.1 59 = .ok (.iconst 1, 1) := by decide +kernel
theorem d_Tokens_wordOf_60 : decode M_Tokens_wordOf.2.1 60 = .ok (.goto 4, 3) := by decide +kernel
theorem d_Tokens_wordOf_63 : decode M_Tokens_wordOf.2.1 63 = .ok (.iconst 0, 1) := by decide +kernel
theorem d_Tokens_wordOf_64 : decode M_Tokens_wordOf.2.1 64 = .ok (.istore 5, 2) := by decide +kernel
theorem d_Tokens_wordOf_66 : decode M_Tokens_wordOf.2.1 66 = .ok (.iinc 4 1, 3) := by decide +kernel
theorem d_Tokens_wordOf_69 : decode M_Tokens_wordOf.2.1 69 = .ok (.goto 25, 3) := by decide +kernel
theorem d_Tokens_wordOf_72 : decode M_Tokens_wordOf.2.1 72 = .ok (.iload 5, 2) := by decide +kernel
theorem d_Tokens_wordOf_74 : decode M_Tokens_wordOf.2.1 74 = .ok (.ifCond .eq 11, 3) := by decide +kernel
theorem d_Tokens_wordOf_77 : decode M_Tokens_wordOf.2.1 77 = .ok (.iload 4, 2) := by decide +kernel
theorem d_Tokens_wordOf_79 : decode M_Tokens_wordOf.2.1 79 = .ok (.iload_n 2, 1) := by decide +kernel
theorem d_Tokens_wordOf_80 : decode M_Tokens_wordOf.2.1 80 = .ok (.if_icmp .ne 5, 3) := by decide +kernel
theorem d_Tokens_wordOf_83 : decode M_Tokens_wordOf.2.1 83 = .ok (.iload_n 3, 1) := by decide +kernel
theorem d_Tokens_wordOf_84 : decode M_Tokens_wordOf.2.1 84 = .ok (.ireturn, 1) := by decide +kernel
theorem d_Tokens_wordOf_85 : decode M_Tokens_wordOf.2.1 85 = .ok (.iinc 3 1, 3) := by decide +kernel
theorem d_Tokens_wordOf_88 : decode M_Tokens_wordOf.2.1 88 = .ok (.iload_n 1, 1) := by decide +kernel
theorem d_Tokens_wordOf_89 : decode M_Tokens_wordOf.2.1 89 = .ok (.istore 4, 2) := by decide +kernel
theorem d_Tokens_wordOf_91 : decode M_Tokens_wordOf.2.1 91 = .ok (.iconst 1, 1) := by decide +kernel
theorem d_Tokens_wordOf_92 : decode M_Tokens_wordOf.2.1 92 = .ok (.istore 5, 2) := by decide +kernel
theorem d_Tokens_wordOf_94 : decode M_Tokens_wordOf.2.1 94 = .ok (.iinc 6 1, 3) := by decide +kernel
theorem d_Tokens_wordOf_97 : decode M_Tokens_wordOf.2.1 97 = .ok (.goto (-86), 3) := by decide +kernel
theorem d_Tokens_wordOf_100 : decode M_Tokens_wordOf.2.1 100 = .ok (.bipush 36, 2) := by decide +kernel
theorem d_Tokens_wordOf_102 : decode M_Tokens_wordOf.2.1 102 = .ok (.ireturn, 1) := by decide +kernel
theorem d_Tokens_kindOf_0 : decode M_Tokens_kindOf.2.1 0 = .ok (.aload_n 0, 1) := by decide +kernel
theorem d_Tokens_kindOf_1 : decode M_Tokens_kindOf.2.1 1 = .ok (.iload_n 1, 1) := by decide +kernel
theorem d_Tokens_kindOf_2 : decode M_Tokens_kindOf.2.1 2 = .ok (.invokevirtual 28, 3) := by decide +kernel
theorem d_Tokens_kindOf_5 : decode M_Tokens_kindOf.2.1 5 = .ok (.istore_n 3, 1) := by decide +kernel
theorem d_Tokens_kindOf_6 : decode M_Tokens_kindOf.2.1 6 = .ok (.iload_n 3, 1) := by decide +kernel
theorem d_Tokens_kindOf_7 : decode M_Tokens_kindOf.2.1 7 = .ok (.invokestatic 55, 3) := by decide +kernel
theorem d_Tokens_kindOf_10 : decode M_Tokens_kindOf.2.1 10 = .ok (.ifCond .eq 10, 3) := by decide +kernel
theorem d_Tokens_kindOf_13 : decode M_Tokens_kindOf.2.1 13 = .ok (.aload_n 0, 1) := by decide +kernel
theorem d_Tokens_kindOf_14 : decode M_Tokens_kindOf.2.1 14 = .ok (.iload_n 1, 1) := by decide +kernel
theorem d_Tokens_kindOf_15 : decode M_Tokens_kindOf.2.1 15 = .ok (.iload_n 2, 1) := by decide +kernel
theorem d_Tokens_kindOf_16 : decode M_Tokens_kindOf.2.1 16 = .ok (.invokestatic 58, 3) := by decide +kernel
theorem d_Tokens_kindOf_19 : decode M_Tokens_kindOf.2.1 19 = .ok (.ireturn, 1) := by decide +kernel
theorem d_Tokens_kindOf_20 : decode M_Tokens_kindOf.2.1 20 = .ok (.iload_n 3, 1) := by decide +kernel
theorem d_Tokens_kindOf_21 : decode M_Tokens_kindOf.2.1 21 = .ok (.invokestatic 36, 3) := by decide +kernel
theorem d_Tokens_kindOf_24 : decode M_Tokens_kindOf.2.1 24 = .ok (.ifCond .eq 8, 3) := by decide +kernel
theorem d_Tokens_kindOf_27 : decode M_Tokens_kindOf.2.1 27 = .ok (.bipush 35, 2) := by decide +kernel
theorem d_Tokens_kindOf_29 : decode M_Tokens_kindOf.2.1 29 = .ok (.goto 19, 3) := by decide +kernel
theorem d_Tokens_kindOf_32 : decode M_Tokens_kindOf.2.1 32 = .ok (.iload_n 3, 1) := by decide +kernel
theorem d_Tokens_kindOf_33 : decode M_Tokens_kindOf.2.1 33 = .ok (.iload_n 2, 1) := by decide +kernel
theorem d_Tokens_kindOf_34 : decode M_Tokens_kindOf.2.1 34 = .ok (.iload_n 1, 1) := by decide +kernel
theorem d_Tokens_kindOf_35 : decode M_Tokens_kindOf.2.1 35 = .ok (.isub, 1) := by decide +kernel
theorem d_Tokens_kindOf_36 : decode M_Tokens_kindOf.2.1 36 = .ok (.iconst 1, 1) := by decide +kernel
theorem d_Tokens_kindOf_37 : decode M_Tokens_kindOf.2.1 37 = .ok (.if_icmp .le 7, 3) := by decide +kernel
theorem d_Tokens_kindOf_40 : decode M_Tokens_kindOf.2.1 40 = .ok (.iconst 1, 1) := by decide +kernel
theorem d_Tokens_kindOf_41 : decode M_Tokens_kindOf.2.1 41 = .ok (.goto 4, 3) := by decide +kernel
theorem d_Tokens_kindOf_44 : decode M_Tokens_kindOf.2.1 44 = .ok (.iconst 0, 1) := by decide +kernel
theorem d_Tokens_kindOf_45 : decode M_Tokens_kindOf.2.1 45 = .ok (.invokestatic 61, 3) := by decide +kernel
theorem d_Tokens_kindOf_48 : decode M_Tokens_kindOf.2.1 48 = .ok (.ireturn, 1) := by decide +kernel
theorem d_Tokens_scan_0 : decode M_Tokens_scan.2.1 0 = .ok (.aload_n 0, 1) := by decide +kernel
theorem d_Tokens_scan_1 : decode M_Tokens_scan.2.1 1 = .ok (.iconst 0, 1) := by decide +kernel
theorem d_Tokens_scan_2 : decode M_Tokens_scan.2.1 2 = .ok (.putfield 21, 3) := by decide +kernel
theorem d_Tokens_scan_5 : decode M_Tokens_scan.2.1 5 = .ok (.iconst 0, 1) := by decide +kernel
theorem d_Tokens_scan_6 : decode M_Tokens_scan.2.1 6 = .ok (.istore_n 2, 1) := by decide +kernel
theorem d_Tokens_scan_7 : decode M_Tokens_scan.2.1 7 = .ok (.iconst 0, 1) := by decide +kernel
theorem d_Tokens_scan_8 : decode M_Tokens_scan.2.1 8 = .ok (.istore_n 3, 1) := by decide +kernel
theorem d_Tokens_scan_9 : decode M_Tokens_scan.2.1 9 = .ok (.iload_n 3, 1) := by decide +kernel
theorem d_Tokens_scan_10 : decode M_Tokens_scan.2.1 10 = .ok (.aload_n 1, 1) := by decide +kernel
theorem d_Tokens_scan_11 : decode M_Tokens_scan.2.1 11 = .ok (.getfield 25, 3) := by decide +kernel
theorem d_Tokens_scan_14 : decode M_Tokens_scan.2.1 14 = .ok (.if_icmp .ge 74, 3) := by decide +kernel
theorem d_Tokens_scan_17 : decode M_Tokens_scan.2.1 17 = .ok (.aload_n 1, 1) := by decide +kernel
theorem d_Tokens_scan_18 : decode M_Tokens_scan.2.1 18 = .ok (.iload_n 3, 1) := by decide +kernel
theorem d_Tokens_scan_19 : decode M_Tokens_scan.2.1 19 = .ok (.invokevirtual 28, 3) := by decide +kernel
theorem d_Tokens_scan_22 : decode M_Tokens_scan.2.1 22 = .ok (.istore 4, 2) := by decide +kernel
theorem d_Tokens_scan_24 : decode M_Tokens_scan.2.1 24 = .ok (.iload_n 3, 1) := by decide +kernel
theorem d_Tokens_scan_25 : decode M_Tokens_scan.2.1 25 = .ok (.iload_n 2, 1) := by decide +kernel
theorem d_Tokens_scan_26 : decode M_Tokens_scan.2.1 26 = .ok (.if_icmp .lt 56, 3) := by decide +kernel
theorem d_Tokens_scan_29 : decode M_Tokens_scan.2.1 29 = .ok (.iload 4, 2) := by decide +kernel
theorem d_Tokens_scan_31 : decode M_Tokens_scan.2.1 31 = .ok (.bipush 32, 2) := by decide +kernel
theorem d_Tokens_scan_33 : decode M_Tokens_scan.2.1 33 = .ok (.if_icmp .eq 49, 3) := by decide +kernel
theorem d_Tokens_scan_36 : decode M_Tokens_scan.2.1 36 = .ok (.iload 4, 2) := by decide +kernel
theorem d_Tokens_scan_38 : decode M_Tokens_scan.2.1 38 = .ok (.bipush 10, 2) := by decide +kernel
theorem d_Tokens_scan_40 : decode M_Tokens_scan.2.1 40 = .ok (.if_icmp .eq 42, 3) := by decide +kernel
theorem d_Tokens_scan_43 : decode M_Tokens_scan.2.1 43 = .ok (.aload_n 1, 1) := by decide +kernel
theorem d_Tokens_scan_44 : decode M_Tokens_scan.2.1 44 = .ok (.iload_n 3, 1) := by decide +kernel
theorem d_Tokens_scan_45 : decode M_Tokens_scan.2.1 45 = .ok (.invokestatic 32, 3) := by decide +kernel
theorem d_Tokens_scan_48 : decode M_Tokens_scan.2.1 48 = .ok (.istore_n 2, 1) := by decide +kernel
theorem d_Tokens_scan_49 : decode M_Tokens_scan.2.1 49 = .ok (.iload 4, 2) := by decide +kernel
theorem d_Tokens_scan_51 : decode M_Tokens_scan.2.1 51 = .ok (.invokestatic 36, 3) := by decide +kernel
theorem d_Tokens_scan_54 : decode M_Tokens_scan.2.1 54 = .ok (.ifCond .eq 12, 3) := by decide +kernel
theorem d_Tokens_scan_57 : decode M_Tokens_scan.2.1 57 = .ok (.aload_n 1, 1) := by decide +kernel
theorem d_Tokens_scan_58 : decode M_Tokens_scan.2.1 58 = .ok (.iload_n 3, 1) := by decide +kernel
theorem d_Tokens_scan_59 : decode M_Tokens_scan.2.1 59 = .ok (.iload_n 2, 1) := by decide +kernel
theorem d_Tokens_scan_60 : decode M_Tokens_scan.2.1 60 = .ok (.invokestatic 40, 3) := by decide +kernel
theorem d_Tokens_scan_63 : decode M_Tokens_scan.2.1 63 = .ok (.goto 4, 3) := by decide +kernel
theorem d_Tokens_scan_66 : decode M_Tokens_scan.2.1 66 = .ok (.iconst 0, 1) := by decide +kernel
theorem d_Tokens_scan_67 : decode M_Tokens_scan.2.1 67 = .ok (.istore 5, 2) := by decide +kernel
theorem d_Tokens_scan_69 : decode M_Tokens_scan.2.1 69 = .ok (.aload_n 0, 1) := by decide +kernel
theorem d_Tokens_scan_70 : decode M_Tokens_scan.2.1 70 = .ok (.aload_n 1, 1) := by decide +kernel
theorem d_Tokens_scan_71 : decode M_Tokens_scan.2.1 71 = .ok (.iload_n 3, 1) := by decide +kernel
theorem d_Tokens_scan_72 : decode M_Tokens_scan.2.1 72 = .ok (.iload_n 2, 1) := by decide +kernel
theorem d_Tokens_scan_73 : decode M_Tokens_scan.2.1 73 = .ok (.invokestatic 44, 3) := by decide +kernel
theorem d_Tokens_scan_76 : decode M_Tokens_scan.2.1 76 = .ok (.iload_n 3, 1) := by decide +kernel
theorem d_Tokens_scan_77 : decode M_Tokens_scan.2.1 77 = .ok (.iload 5, 2) := by decide +kernel
theorem d_Tokens_scan_79 : decode M_Tokens_scan.2.1 79 = .ok (.invokevirtual 47, 3) := by decide +kernel
theorem d_Tokens_scan_82 : decode M_Tokens_scan.2.1 82 = .ok (.iinc 3 1, 3) := by decide +kernel
theorem d_Tokens_scan_85 : decode M_Tokens_scan.2.1 85 = .ok (.goto (-76), 3) := by decide +kernel
theorem d_Tokens_scan_88 : decode M_Tokens_scan.2.1 88 = .ok (.aload_n 0, 1) := by decide +kernel
theorem d_Tokens_scan_89 : decode M_Tokens_scan.2.1 89 = .ok (.bipush 37, 2) := by decide +kernel
theorem d_Tokens_scan_91 : decode M_Tokens_scan.2.1 91 = .ok (.aload_n 1, 1) := by decide +kernel
theorem d_Tokens_scan_92 : decode M_Tokens_scan.2.1 92 = .ok (.getfield 25, 3) := by decide +kernel
theorem d_Tokens_scan_95 : decode M_Tokens_scan.2.1 95 = .ok (.iconst 0, 1) := by decide +kernel
theorem d_Tokens_scan_96 : decode M_Tokens_scan.2.1 96 = .ok (.invokevirtual 47, 3) := by decide +kernel
theorem d_Tokens_scan_99 : decode M_Tokens_scan.2.1 99 = .ok (.return_, 1) := by decide +kernel
theorem d_Reader_kind_0 : decode M_Reader_kind.2.1 0 = .ok (.aload_n 0, 1) := by decide +kernel
theorem d_Reader_kind_1 : decode M_Reader_kind.2.1 1 = .ok (.getfield 38, 3) := by decide +kernel
theorem d_Reader_kind_4 : decode M_Reader_kind.2.1 4 = .ok (.ifCond .lt 47, 3) := by decide +kernel
theorem d_Reader_kind_7 : decode M_Reader_kind.2.1 7 = .ok (.aload_n 0, 1) := by decide +kernel
theorem d_Reader_kind_8 : decode M_Reader_kind.2.1 8 = .ok (.getfield 38, 3) := by decide +kernel
theorem d_Reader_kind_11 : decode M_Reader_kind.2.1 11 = .ok (.aload_n 0, 1) := by decide +kernel
theorem d_Reader_kind_12 : decode M_Reader_kind.2.1 12 = .ok (.getfield 18, 3) := by decide +kernel
theorem d_Reader_kind_15 : decode M_Reader_kind.2.1 15 = .ok (.getfield 45, 3) := by decide +kernel
theorem d_Reader_kind_18 : decode M_Reader_kind.2.1 18 = .ok (.if_icmp .ge 33, 3) := by decide +kernel
theorem d_Reader_kind_21 : decode M_Reader_kind.2.1 21 = .ok (.aload_n 0, 1) := by decide +kernel
theorem d_Reader_kind_22 : decode M_Reader_kind.2.1 22 = .ok (.getfield 38, 3) := by decide +kernel
theorem d_Reader_kind_25 : decode M_Reader_kind.2.1 25 = .ok (.aload_n 0, 1) := by decide +kernel
theorem d_Reader_kind_26 : decode M_Reader_kind.2.1 26 = .ok (.getfield 18, 3) := by decide +kernel
theorem d_Reader_kind_29 : decode M_Reader_kind.2.1 29 = .ok (.getfield 56, 3) := by decide +kernel
theorem d_Reader_kind_32 : decode M_Reader_kind.2.1 32 = .ok (.arraylength, 1) := by decide +kernel
theorem d_Reader_kind_33 : decode M_Reader_kind.2.1 33 = .ok (.if_icmp .ge 18, 3) := by decide +kernel
theorem d_Reader_kind_36 : decode M_Reader_kind.2.1 36 = .ok (.aload_n 0, 1) := by decide +kernel
theorem d_Reader_kind_37 : decode M_Reader_kind.2.1 37 = .ok (.getfield 18, 3) := by decide +kernel
theorem d_Reader_kind_40 : decode M_Reader_kind.2.1 40 = .ok (.getfield 56, 3) := by decide +kernel
theorem d_Reader_kind_43 : decode M_Reader_kind.2.1 43 = .ok (.aload_n 0, 1) := by decide +kernel
theorem d_Reader_kind_44 : decode M_Reader_kind.2.1 44 = .ok (.getfield 38, 3) := by decide +kernel
theorem d_Reader_kind_47 : decode M_Reader_kind.2.1 47 = .ok (.iaload, 1) := by decide +kernel
theorem d_Reader_kind_48 : decode M_Reader_kind.2.1 48 = .ok (.goto 5, 3) := by decide +kernel
theorem d_Reader_kind_51 : decode M_Reader_kind.2.1 51 = .ok (.bipush 37, 2) := by decide +kernel
theorem d_Reader_kind_53 : decode M_Reader_kind.2.1 53 = .ok (.ireturn, 1) := by decide +kernel
theorem d_Law_has_0 : decode M_Law_has.2.1 0 = .ok (.iload_n 1, 1) := by decide +kernel
theorem d_Law_has_1 : decode M_Law_has.2.1 1 = .ok (.bipush 6, 2) := by decide +kernel
theorem d_Law_has_3 : decode M_Law_has.2.1 3 = .ok (.invokestatic 37, 3) := by decide +kernel
theorem d_Law_has_6 : decode M_Law_has.2.1 6 = .ok (.ifCond .eq 22, 3) := by decide +kernel
theorem d_Law_has_9 : decode M_Law_has.2.1 9 = .ok (.aload_n 0, 1) := by decide +kernel
theorem d_Law_has_10 : decode M_Law_has.2.1 10 = .ok (.getfield 18, 3) := by decide +kernel
theorem d_Law_has_13 : decode M_Law_has.2.1 13 = .ok (.iload_n 1, 1) := by decide +kernel
theorem d_Law_has_14 : decode M_Law_has.2.1 14 = .ok (.iaload, 1) := by decide +kernel
theorem d_Law_has_15 : decode M_Law_has.2.1 15 = .ok (.aload_n 0, 1) := by decide +kernel
theorem d_Law_has_16 : decode M_Law_has.2.1 16 = .ok (.getfield 15, 3) := by decide +kernel
theorem d_Law_has_19 : decode M_Law_has.2.1 19 = .ok (.iload_n 1, 1) := by decide +kernel
theorem d_Law_has_20 : decode M_Law_has.2.1 20 = .ok (.iaload, 1) := by decide +kernel
theorem d_Law_has_21 : decode M_Law_has.2.1 21 = .ok (.if_icmp .le 7, 3) := by decide +kernel
theorem d_Law_has_24 : decode M_Law_has.2.1 24 = .ok (.iconst 1, 1) := by decide +kernel
theorem d_Law_has_25 : decode M_Law_has.2.1 25 = .ok (.goto 4, 3) := by decide +kernel
theorem d_Law_has_28 : decode M_Law_has.2.1 28 = .ok (.iconst 0, 1) := by decide +kernel
theorem d_Law_has_29 : decode M_Law_has.2.1 29 = .ok (.ireturn, 1) := by decide +kernel
theorem d_Reader_wrong_0 : decode M_Reader_wrong.2.1 0 = .ok (.aload_n 0, 1) := by decide +kernel
theorem d_Reader_wrong_1 : decode M_Reader_wrong.2.1 1 = .ok (.iload_n 1, 1) := by decide +kernel
theorem d_Reader_wrong_2 : decode M_Reader_wrong.2.1 2 = .ok (.putfield 30, 3) := by decide +kernel
theorem d_Reader_wrong_5 : decode M_Reader_wrong.2.1 5 = .ok (.aload_n 0, 1) := by decide +kernel
theorem d_Reader_wrong_6 : decode M_Reader_wrong.2.1 6 = .ok (.aload_n 0, 1) := by decide +kernel
theorem d_Reader_wrong_7 : decode M_Reader_wrong.2.1 7 = .ok (.getfield 38, 3) := by decide +kernel
theorem d_Reader_wrong_10 : decode M_Reader_wrong.2.1 10 = .ok (.ifCond .lt 33, 3) := by decide +kernel
theorem d_Reader_wrong_13 : decode M_Reader_wrong.2.1 13 = .ok (.aload_n 0, 1) := by decide +kernel
theorem d_Reader_wrong_14 : decode M_Reader_wrong.2.1 14 = .ok (.getfield 38, 3) := by decide +kernel
theorem d_Reader_wrong_17 : decode M_Reader_wrong.2.1 17 = .ok (.aload_n 0, 1) := by decide +kernel
theorem d_Reader_wrong_18 : decode M_Reader_wrong.2.1 18 = .ok (.getfield 18, 3) := by decide +kernel
theorem d_Reader_wrong_21 : decode M_Reader_wrong.2.1 21 = .ok (.getfield 63, 3) := by decide +kernel
theorem d_Reader_wrong_24 : decode M_Reader_wrong.2.1 24 = .ok (.arraylength, 1) := by decide +kernel
theorem d_Reader_wrong_25 : decode M_Reader_wrong.2.1 25 = .ok (.if_icmp .ge 18, 3) := by decide +kernel
theorem d_Reader_wrong_28 : decode M_Reader_wrong.2.1 28 = .ok (.aload_n 0, 1) := by decide +kernel
theorem d_Reader_wrong_29 : decode M_Reader_wrong.2.1 29 = .ok (.getfield 18, 3) := by decide +kernel
theorem d_Reader_wrong_32 : decode M_Reader_wrong.2.1 32 = .ok (.getfield 63, 3) := by decide +kernel
theorem d_Reader_wrong_35 : decode M_Reader_wrong.2.1 35 = .ok (.aload_n 0, 1) := by decide +kernel
theorem d_Reader_wrong_36 : decode M_Reader_wrong.2.1 36 = .ok (.getfield 38, 3) := by decide +kernel
theorem d_Reader_wrong_39 : decode M_Reader_wrong.2.1 39 = .ok (.iaload, 1) := by decide +kernel
theorem d_Reader_wrong_40 : decode M_Reader_wrong.2.1 40 = .ok (.goto 4, 3) := by decide +kernel
theorem d_Reader_wrong_43 : decode M_Reader_wrong.2.1 43 = .ok (.iconst (-1), 1) := by decide +kernel
theorem d_Reader_wrong_44 : decode M_Reader_wrong.2.1 44 = .ok (.putfield 9, 3) := by decide +kernel
theorem d_Reader_wrong_47 : decode M_Reader_wrong.2.1 47 = .ok (.iconst 0, 1) := by decide +kernel
theorem d_Reader_wrong_48 : decode M_Reader_wrong.2.1 48 = .ok (.ireturn, 1) := by decide +kernel
theorem d_Reader_value_0 : decode M_Reader_value.2.1 0 = .ok (.aload_n 0, 1) := by decide +kernel
theorem d_Reader_value_1 : decode M_Reader_value.2.1 1 = .ok (.getfield 38, 3) := by decide +kernel
theorem d_Reader_value_4 : decode M_Reader_value.2.1 4 = .ok (.ifCond .lt 33, 3) := by decide +kernel
theorem d_Reader_value_7 : decode M_Reader_value.2.1 7 = .ok (.aload_n 0, 1) := by decide +kernel
theorem d_Reader_value_8 : decode M_Reader_value.2.1 8 = .ok (.getfield 38, 3) := by decide +kernel
theorem d_Reader_value_11 : decode M_Reader_value.2.1 11 = .ok (.aload_n 0, 1) := by decide +kernel
theorem d_Reader_value_12 : decode M_Reader_value.2.1 12 = .ok (.getfield 18, 3) := by decide +kernel
theorem d_Reader_value_15 : decode M_Reader_value.2.1 15 = .ok (.getfield 60, 3) := by decide +kernel
theorem d_Reader_value_18 : decode M_Reader_value.2.1 18 = .ok (.arraylength, 1) := by decide +kernel
theorem d_Reader_value_19 : decode M_Reader_value.2.1 19 = .ok (.if_icmp .ge 18, 3) := by decide +kernel
theorem d_Reader_value_22 : decode M_Reader_value.2.1 22 = .ok (.aload_n 0, 1) := by decide +kernel
theorem d_Reader_value_23 : decode M_Reader_value.2.1 23 = .ok (.getfield 18, 3) := by decide +kernel
theorem d_Reader_value_26 : decode M_Reader_value.2.1 26 = .ok (.getfield 60, 3) := by decide +kernel
theorem d_Reader_value_29 : decode M_Reader_value.2.1 29 = .ok (.aload_n 0, 1) := by decide +kernel
theorem d_Reader_value_30 : decode M_Reader_value.2.1 30 = .ok (.getfield 38, 3) := by decide +kernel
theorem d_Reader_value_33 : decode M_Reader_value.2.1 33 = .ok (.iaload, 1) := by decide +kernel
theorem d_Reader_value_34 : decode M_Reader_value.2.1 34 = .ok (.goto 4, 3) := by decide +kernel
theorem d_Reader_value_37 : decode M_Reader_value.2.1 37 = .ok (.iconst 0, 1) := by decide +kernel
theorem d_Reader_value_38 : decode M_Reader_value.2.1 38 = .ok (.ireturn, 1) := by decide +kernel
theorem d_Reader_faultOfPlain_0 : decode M_Reader_faultOfPlain.2.1 0 = .ok (.iload_n 1, 1) := by decide +kernel
theorem d_Reader_faultOfPlain_1 : decode M_Reader_faultOfPlain.2.1 1 = .ok (.bipush 35, 2) := by decide +kernel
theorem d_Reader_faultOfPlain_3 : decode M_Reader_faultOfPlain.2.1 3 = .ok (.if_icmp .ne 16, 3) := by decide +kernel
theorem d_Reader_faultOfPlain_6 : decode M_Reader_faultOfPlain.2.1 6 = .ok (.iload_n 2, 1) := by decide +kernel
theorem d_Reader_faultOfPlain_7 : decode M_Reader_faultOfPlain.2.1 7 = .ok (.sipush 9999, 3) := by decide +kernel
theorem d_Reader_faultOfPlain_10 : decode M_Reader_faultOfPlain.2.1 10 = .ok (.if_icmp .le 7, 3) := by decide +kernel
theorem d_Reader_faultOfPlain_13 : decode M_Reader_faultOfPlain.2.1 13 = .ok (.iconst 2, 1) := by decide +kernel
theorem d_Reader_faultOfPlain_14 : decode M_Reader_faultOfPlain.2.1 14 = .ok (.goto 4, 3) := by decide +kernel
theorem d_Reader_faultOfPlain_17 : decode M_Reader_faultOfPlain.2.1 17 = .ok (.iconst 0, 1) := by decide +kernel
theorem d_Reader_faultOfPlain_18 : decode M_Reader_faultOfPlain.2.1 18 = .ok (.ireturn, 1) := by decide +kernel
theorem d_Reader_faultOfPlain_19 : decode M_Reader_faultOfPlain.2.1 19 = .ok (.iload_n 1, 1) := by decide +kernel
theorem d_Reader_faultOfPlain_20 : decode M_Reader_faultOfPlain.2.1 20 = .ok (.bipush 9, 2) := by decide +kernel
theorem d_Reader_faultOfPlain_22 : decode M_Reader_faultOfPlain.2.1 22 = .ok (.isub, 1) := by decide +kernel
theorem d_Reader_faultOfPlain_23 : decode M_Reader_faultOfPlain.2.1 23 = .ok (.istore_n 3, 1) := by decide +kernel
theorem d_Reader_faultOfPlain_24 : decode M_Reader_faultOfPlain.2.1 24 = .ok (.iload_n 3, 1) := by decide +kernel
theorem d_Reader_faultOfPlain_25 : decode M_Reader_faultOfPlain.2.1 25 = .ok (.ifCond .lt 11, 3) := by decide +kernel
theorem d_Reader_faultOfPlain_28 : decode M_Reader_faultOfPlain.2.1 28 = .ok (.iload_n 3, 1) := by decide +kernel
theorem d_Reader_faultOfPlain_29 : decode M_Reader_faultOfPlain.2.1 29 = .ok (.getstatic 110, 3) := by decide +kernel
theorem d_Reader_faultOfPlain_32 : decode M_Reader_faultOfPlain.2.1 32 = .ok (.arraylength, 1) := by decide +kernel
theorem d_Reader_faultOfPlain_33 : decode M_Reader_faultOfPlain.2.1 33 = .ok (.if_icmp .lt 5, 3) := by decide +kernel
theorem d_Reader_faultOfPlain_36 : decode M_Reader_faultOfPlain.2.1 36 = .ok (.iconst 1, 1) := by decide +kernel
theorem d_Reader_faultOfPlain_37 : decode M_Reader_faultOfPlain.2.1 37 = .ok (.ireturn, 1) := by decide +kernel
theorem d_Reader_faultOfPlain_38 : decode M_Reader_faultOfPlain.2.1 38 = .ok (.getstatic 110, 3) := by decide +kernel
theorem d_Reader_faultOfPlain_41 : decode M_Reader_faultOfPlain.2.1 41 = .ok (.iload_n 3, 1) := by decide +kernel
theorem d_Reader_faultOfPlain_42 : decode M_Reader_faultOfPlain.2.1 42 = .ok (.iaload, 1) := by decide +kernel
theorem d_Reader_faultOfPlain_43 : decode M_Reader_faultOfPlain.2.1 43 = .ok (.aload_n 0, 1) := by decide +kernel
theorem d_Reader_faultOfPlain_44 : decode M_Reader_faultOfPlain.2.1 44 = .ok (.getfield 66, 3) := by decide +kernel
theorem d_Reader_faultOfPlain_47 : decode M_Reader_faultOfPlain.2.1 47 = .ok (.ishr, 1) := by decide +kernel
theorem d_Reader_faultOfPlain_48 : decode M_Reader_faultOfPlain.2.1 48 = .ok (.iconst 1, 1) := by decide +kernel
theorem d_Reader_faultOfPlain_49 : decode M_Reader_faultOfPlain.2.1 49 = .ok (.iand, 1) := by decide +kernel
theorem d_Reader_faultOfPlain_50 : decode M_Reader_faultOfPlain.2.1 50 = .ok (.ifCond .ne 7, 3) := by decide +kernel
theorem d_Reader_faultOfPlain_53 : decode M_Reader_faultOfPlain.2.1 53 = .ok (.iconst 5, 1) := by decide +kernel
theorem d_Reader_faultOfPlain_54 : decode M_Reader_faultOfPlain.2.1 54 = .ok (.goto 4, 3) := by decide +kernel
theorem d_Reader_faultOfPlain_57 : decode M_Reader_faultOfPlain.2.1 57 = .ok (.iconst 0, 1) := by decide +kernel
theorem d_Reader_faultOfPlain_58 : decode M_Reader_faultOfPlain.2.1 58 = .ok (.ireturn, 1) := by decide +kernel
theorem d_Reader_emitIf_0 : decode M_Reader_emitIf.2.1 0 = .ok (.iload_n 1, 1) := by decide +kernel
theorem d_Reader_emitIf_1 : decode M_Reader_emitIf.2.1 1 = .ok (.ifCond .eq 60, 3) := by decide +kernel
theorem d_Reader_emitIf_4 : decode M_Reader_emitIf.2.1 4 = .ok (.aload_n 0, 1) := by decide +kernel
theorem d_Reader_emitIf_5 : decode M_Reader_emitIf.2.1 5 = .ok (.getfield 22, 3) := by decide +kernel
theorem d_Reader_emitIf_8 : decode M_Reader_emitIf.2.1 8 = .ok (.getfield 80, 3) := by decide +kernel
theorem d_Reader_emitIf_11 : decode M_Reader_emitIf.2.1 11 = .ok (.ifCond .lt 50, 3) := by decide +kernel
theorem d_Reader_emitIf_14 : decode M_Reader_emitIf.2.1 14 = .ok (.aload_n 0, 1) := by decide +kernel
theorem d_Reader_emitIf_15 : decode M_Reader_emitIf.2.1 15 = .ok (.getfield 22, 3) := by decide +kernel
theorem d_Reader_emitIf_18 : decode M_Reader_emitIf.2.1 18 = .ok (.getfield 80, 3) := by decide +kernel
theorem d_Reader_emitIf_21 : decode M_Reader_emitIf.2.1 21 = .ok (.aload_n 0, 1) := by decide +kernel
theorem d_Reader_emitIf_22 : decode M_Reader_emitIf.2.1 22 = .ok (.getfield 22, 3) := by decide +kernel
theorem d_Reader_emitIf_25 : decode M_Reader_emitIf.2.1 25 = .ok (.getfield 113, 3) := by decide +kernel
theorem d_Reader_emitIf_28 : decode M_Reader_emitIf.2.1 28 = .ok (.arraylength, 1) := by decide +kernel
theorem d_Reader_emitIf_29 : decode M_Reader_emitIf.2.1 29 = .ok (.if_icmp .ge 32, 3) := by decide +kernel
theorem d_Reader_emitIf_32 : decode M_Reader_emitIf.2.1 32 = .ok (.aload_n 0, 1) := by decide +kernel
theorem d_Reader_emitIf_33 : decode M_Reader_emitIf.2.1 33 = .ok (.getfield 22, 3) := by decide +kernel
theorem d_Reader_emitIf_36 : decode M_Reader_emitIf.2.1 36 = .ok (.getfield 113, 3) := by decide +kernel
theorem d_Reader_emitIf_39 : decode M_Reader_emitIf.2.1 39 = .ok (.aload_n 0, 1) := by decide +kernel
theorem d_Reader_emitIf_40 : decode M_Reader_emitIf.2.1 40 = .ok (.getfield 22, 3) := by decide +kernel
theorem d_Reader_emitIf_43 : decode M_Reader_emitIf.2.1 43 = .ok (.getfield 80, 3) := by decide +kernel
theorem d_Reader_emitIf_46 : decode M_Reader_emitIf.2.1 46 = .ok (.iload_n 2, 1) := by decide +kernel
theorem d_Reader_emitIf_47 : decode M_Reader_emitIf.2.1 47 = .ok (.iastore, 1) := by decide +kernel
theorem d_Reader_emitIf_48 : decode M_Reader_emitIf.2.1 48 = .ok (.aload_n 0, 1) := by decide +kernel
theorem d_Reader_emitIf_49 : decode M_Reader_emitIf.2.1 49 = .ok (.getfield 22, 3) := by decide +kernel
theorem d_Reader_emitIf_52 : decode M_Reader_emitIf.2.1 52 = .ok (.dup, 1) := by decide +kernel
theorem d_Reader_emitIf_53 : decode M_Reader_emitIf.2.1 53 = .ok (.getfield 80, 3) := by decide +kernel
theorem d_Reader_emitIf_56 : decode M_Reader_emitIf.2.1 56 = .ok (.iconst 1, 1) := by decide +kernel
theorem d_Reader_emitIf_57 : decode M_Reader_emitIf.2.1 57 = .ok (.iadd, 1) := by decide +kernel
theorem d_Reader_emitIf_58 : decode M_Reader_emitIf.2.1 58 = .ok (.putfield 80, 3) := by decide +kernel
theorem d_Reader_emitIf_61 : decode M_Reader_emitIf.2.1 61 = .ok (.return_, 1) := by decide +kernel
theorem d_Reader_readOne_0 : decode M_Reader_readOne.2.1 0 = .ok (.iload_n 1, 1) := by decide +kernel
theorem d_Reader_readOne_1 : decode M_Reader_readOne.2.1 1 = .ok (.istore_n 2, 1) := by decide +kernel
theorem d_Reader_readOne_2 : decode M_Reader_readOne.2.1 2 = .ok (.iconst 0, 1) := by decide +kernel
theorem d_Reader_readOne_3 : decode M_Reader_readOne.2.1 3 = .ok (.istore_n 3, 1) := by decide +kernel
theorem d_Reader_readOne_4 : decode M_Reader_readOne.2.1 4 = .ok (.iload_n 3, 1) := by decide +kernel
theorem d_Reader_readOne_5 : decode M_Reader_readOne.2.1 5 = .ok (.bipush 8, 2) := by decide +kernel
theorem d_Reader_readOne_7 : decode M_Reader_readOne.2.1 7 = .ok (.if_icmp .gt 43, 3) := by decide +kernel
theorem d_Reader_readOne_10 : decode M_Reader_readOne.2.1 10 = .ok (.aload_n 0, 1) := by decide +kernel
theorem d_Reader_readOne_11 : decode M_Reader_readOne.2.1 11 = .ok (.invokevirtual 48, 3) := by decide +kernel
theorem d_Reader_readOne_14 : decode M_Reader_readOne.2.1 14 = .ok (.bipush 29, 2) := by decide +kernel
theorem d_Reader_readOne_16 : decode M_Reader_readOne.2.1 16 = .ok (.if_icmp .ne 34, 3) := by decide +kernel
theorem d_Reader_readOne_19 : decode M_Reader_readOne.2.1 19 = .ok (.iload_n 2, 1) := by decide +kernel
theorem d_Reader_readOne_20 : decode M_Reader_readOne.2.1 20 = .ok (.bipush 8, 2) := by decide +kernel
theorem d_Reader_readOne_22 : decode M_Reader_readOne.2.1 22 = .ok (.if_icmp .lt 9, 3) := by decide +kernel
theorem d_Reader_readOne_25 : decode M_Reader_readOne.2.1 25 = .ok (.aload_n 0, 1) := by decide +kernel
theorem d_Reader_readOne_26 : decode M_Reader_readOne.2.1 26 = .ok (.iconst 3, 1) := by decide +kernel
theorem d_Reader_readOne_27 : decode M_Reader_readOne.2.1 27 = .ok (.invokevirtual 73, 3) := by decide +kernel
theorem d_Reader_readOne_30 : decode M_Reader_readOne.2.1 30 = .ok (.ireturn, 1) := by decide +kernel
theorem d_Reader_readOne_31 : decode M_Reader_readOne.2.1 31 = .ok (.iinc 2 1, 3) := by decide +kernel
theorem d_Reader_readOne_34 : decode M_Reader_readOne.2.1 34 = .ok (.aload_n 0, 1) := by decide +kernel
theorem d_Reader_readOne_35 : decode M_Reader_readOne.2.1 35 = .ok (.dup, 1) := by decide +kernel
theorem d_Reader_readOne_36 : decode M_Reader_readOne.2.1 36 = .ok (.getfield 38, 3) := by decide +kernel
theorem d_Reader_readOne_39 : decode M_Reader_readOne.2.1 39 = .ok (.iconst 1, 1) := by decide +kernel
theorem d_Reader_readOne_40 : decode M_Reader_readOne.2.1 40 = .ok (.iadd, 1) := by decide +kernel
theorem d_Reader_readOne_41 : decode M_Reader_readOne.2.1 41 = .ok (.putfield 38, 3) := by decide +kernel
theorem d_Reader_readOne_44 : decode M_Reader_readOne.2.1 44 = .ok (.iinc 3 1, 3) := by decide +kernel
theorem d_Reader_readOne_47 : decode M_Reader_readOne.2.1 47 = .ok (.goto (-43), 3) := by decide +kernel
theorem d_Reader_readOne_50 : decode M_Reader_readOne.2.1 50 = .ok (.aload_n 0, 1) := by decide +kernel
theorem d_Reader_readOne_51 : decode M_Reader_readOne.2.1 51 = .ok (.invokevirtual 48, 3) := by decide +kernel
theorem d_Reader_readOne_54 : decode M_Reader_readOne.2.1 54 = .ok (.bipush 32, 2) := by decide +kernel
theorem d_Reader_readOne_56 : decode M_Reader_readOne.2.1 56 = .ok (.if_icmp .eq 56, 3) := by decide +kernel
theorem d_Reader_readOne_59 : decode M_Reader_readOne.2.1 59 = .ok (.aload_n 0, 1) := by decide +kernel
theorem d_Reader_readOne_60 : decode M_Reader_readOne.2.1 60 = .ok (.aload_n 0, 1) := by decide +kernel
theorem d_Reader_readOne_61 : decode M_Reader_readOne.2.1 61 = .ok (.invokevirtual 48, 3) := by decide +kernel
theorem d_Reader_readOne_64 : decode M_Reader_readOne.2.1 64 = .ok (.aload_n 0, 1) := by decide +kernel
theorem d_Reader_readOne_65 : decode M_Reader_readOne.2.1 65 = .ok (.invokevirtual 103, 3) := by decide +kernel
theorem d_Reader_readOne_68 : decode M_Reader_readOne.2.1 68 = .ok (.invokevirtual 106, 3) := by decide +kernel
theorem d_Reader_readOne_71 : decode M_Reader_readOne.2.1 71 = .ok (.istore_n 3, 1) := by decide +kernel
theorem d_Reader_readOne_72 : decode M_Reader_readOne.2.1 72 = .ok (.iload_n 3, 1) := by decide +kernel
theorem d_Reader_readOne_73 : decode M_Reader_readOne.2.1 73 = .ok (.ifCond .eq 9, 3) := by decide +kernel
theorem d_Reader_readOne_76 : decode M_Reader_readOne.2.1 76 = .ok (.aload_n 0, 1) := by decide +kernel
theorem d_Reader_readOne_77 : decode M_Reader_readOne.2.1 77 = .ok (.iload_n 3, 1) := by decide +kernel
theorem d_Reader_readOne_78 : decode M_Reader_readOne.2.1 78 = .ok (.invokevirtual 73, 3) := by decide +kernel
theorem d_Reader_readOne_81 : decode M_Reader_readOne.2.1 81 = .ok (.ireturn, 1) := by decide +kernel
theorem d_Reader_readOne_82 : decode M_Reader_readOne.2.1 82 = .ok (.aload_n 0, 1) := by decide +kernel
theorem d_Reader_readOne_83 : decode M_Reader_readOne.2.1 83 = .ok (.iconst 1, 1) := by decide +kernel
theorem d_Reader_readOne_84 : decode M_Reader_readOne.2.1 84 = .ok (.aload_n 0, 1) := by decide +kernel
theorem d_Reader_readOne_85 : decode M_Reader_readOne.2.1 85 = .ok (.invokevirtual 48, 3) := by decide +kernel
theorem d_Reader_readOne_88 : decode M_Reader_readOne.2.1 88 = .ok (.bipush 35, 2) := by decide +kernel
theorem d_Reader_readOne_90 : decode M_Reader_readOne.2.1 90 = .ok (.if_icmp .ne 10, 3) := by decide +kernel
theorem d_Reader_readOne_93 : decode M_Reader_readOne.2.1 93 = .ok (.aload_n 0, 1) := by decide +kernel
theorem d_Reader_readOne_94 : decode M_Reader_readOne.2.1 94 = .ok (.invokevirtual 103, 3) := by decide +kernel
theorem d_Reader_readOne_97 : decode M_Reader_readOne.2.1 97 = .ok (.goto 9, 3) := by decide +kernel
theorem d_Reader_readOne_100 : decode M_Reader_readOne.2.1 100 = .ok (.iconst (-1), 1) := by decide +kernel
theorem d_Reader_readOne_101 : decode M_Reader_readOne.2.1 101 = .ok (.aload_n 0, 1) := by decide +kernel
theorem d_Reader_readOne_102 : decode M_Reader_readOne.2.1 102 = .ok (.invokevirtual 48, 3) := by decide +kernel
theorem d_Reader_readOne_105 : decode M_Reader_readOne.2.1 105 = .ok (.isub, 1) := by decide +kernel
theorem d_Reader_readOne_106 : decode M_Reader_readOne.2.1 106 = .ok (.invokevirtual 96, 3) := by decide +kernel
theorem d_Reader_readOne_109 : decode M_Reader_readOne.2.1 109 = .ok (.goto 52, 3) := by decide +kernel
theorem d_Reader_readOne_112 : decode M_Reader_readOne.2.1 112 = .ok (.iload_n 2, 1) := by decide +kernel
theorem d_Reader_readOne_113 : decode M_Reader_readOne.2.1 113 = .ok (.bipush 8, 2) := by decide +kernel
theorem d_Reader_readOne_115 : decode M_Reader_readOne.2.1 115 = .ok (.if_icmp .lt 9, 3) := by decide +kernel
theorem d_Reader_readOne_118 : decode M_Reader_readOne.2.1 118 = .ok (.aload_n 0, 1) := by decide +kernel
theorem d_Reader_readOne_119 : decode M_Reader_readOne.2.1 119 = .ok (.iconst 3, 1) := by decide +kernel
theorem d_Reader_readOne_120 : decode M_Reader_readOne.2.1 120 = .ok (.invokevirtual 73, 3) := by decide +kernel
theorem d_Reader_readOne_123 : decode M_Reader_readOne.2.1 123 = .ok (.ireturn, 1) := by decide +kernel
theorem d_Reader_readOne_124 : decode M_Reader_readOne.2.1 124 = .ok (.aload_n 0, 1) := by decide +kernel
theorem d_Reader_readOne_125 : decode M_Reader_readOne.2.1 125 = .ok (.dup, 1) := by decide +kernel
theorem d_Reader_readOne_126 : decode M_Reader_readOne.2.1 126 = .ok (.getfield 38, 3) := by decide +kernel
theorem d_Reader_readOne_129 : decode M_Reader_readOne.2.1 129 = .ok (.iconst 1, 1) := by decide +kernel
theorem d_Reader_readOne_130 : decode M_Reader_readOne.2.1 130 = .ok (.iadd, 1) := by decide +kernel
theorem d_Reader_readOne_131 : decode M_Reader_readOne.2.1 131 = .ok (.putfield 38, 3) := by decide +kernel
theorem d_Reader_readOne_134 : decode M_Reader_readOne.2.1 134 = .ok (.aload_n 0, 1) := by decide +kernel
theorem d_Reader_readOne_135 : decode M_Reader_readOne.2.1 135 = .ok (.iload_n 2, 1) := by decide +kernel
theorem d_Reader_readOne_136 : decode M_Reader_readOne.2.1 136 = .ok (.iconst 1, 1) := by decide +kernel
theorem d_Reader_readOne_137 : decode M_Reader_readOne.2.1 137 = .ok (.iadd, 1) := by decide +kernel
theorem d_Reader_readOne_138 : decode M_Reader_readOne.2.1 138 = .ok (.invokevirtual 83, 3) := by decide +kernel
theorem d_Reader_readOne_141 : decode M_Reader_readOne.2.1 141 = .ok (.ifCond .ne 5, 3) := by decide +kernel
theorem d_Reader_readOne_144 : decode M_Reader_readOne.2.1 144 = .ok (.iconst 0, 1) := by decide +kernel
theorem d_Reader_readOne_145 : decode M_Reader_readOne.2.1 145 = .ok (.ireturn, 1) := by decide +kernel
theorem d_Reader_readOne_146 : decode M_Reader_readOne.2.1 146 = .ok (.aload_n 0, 1) := by decide +kernel
theorem d_Reader_readOne_147 : decode M_Reader_readOne.2.1 147 = .ok (.invokevirtual 48, 3) := by decide +kernel
theorem d_Reader_readOne_150 : decode M_Reader_readOne.2.1 150 = .ok (.bipush 33, 2) := by decide +kernel
theorem d_Reader_readOne_152 : decode M_Reader_readOne.2.1 152 = .ok (.if_icmp .eq 9, 3) := by decide +kernel
theorem d_Reader_readOne_155 : decode M_Reader_readOne.2.1 155 = .ok (.aload_n 0, 1) := by decide +kernel
theorem d_Reader_readOne_156 : decode M_Reader_readOne.2.1 156 = .ok (.iconst 1, 1) := by decide +kernel
theorem d_Reader_readOne_157 : decode M_Reader_readOne.2.1 157 = .ok (.invokevirtual 73, 3) := by decide +kernel
theorem d_Reader_readOne_160 : decode M_Reader_readOne.2.1 160 = .ok (.ireturn, 1) := by decide +kernel
theorem d_Reader_readOne_161 : decode M_Reader_readOne.2.1 161 = .ok (.aload_n 0, 1) := by decide +kernel
theorem d_Reader_readOne_162 : decode M_Reader_readOne.2.1 162 = .ok (.dup, 1) := by decide +kernel
theorem d_Reader_readOne_163 : decode M_Reader_readOne.2.1 163 = .ok (.getfield 38, 3) := by decide +kernel
theorem d_Reader_readOne_166 : decode M_Reader_readOne.2.1 166 = .ok (.iconst 1, 1) := by decide +kernel
theorem d_Reader_readOne_167 : decode M_Reader_readOne.2.1 167 = .ok (.iadd, 1) := by decide +kernel
theorem d_Reader_readOne_168 : decode M_Reader_readOne.2.1 168 = .ok (.putfield 38, 3) := by decide +kernel
theorem d_Reader_readOne_171 : decode M_Reader_readOne.2.1 171 = .ok (.aload_n 0, 1) := by decide +kernel
theorem d_Reader_readOne_172 : decode M_Reader_readOne.2.1 172 = .ok (.iload_n 2, 1) := by decide +kernel
theorem d_Reader_readOne_173 : decode M_Reader_readOne.2.1 173 = .ok (.iload_n 1, 1) := by decide +kernel
theorem d_Reader_readOne_174 : decode M_Reader_readOne.2.1 174 = .ok (.isub, 1) := by decide +kernel
theorem d_Reader_readOne_175 : decode M_Reader_readOne.2.1 175 = .ok (.iconst 2, 1) := by decide +kernel
theorem d_Reader_readOne_176 : decode M_Reader_readOne.2.1 176 = .ok (.irem, 1) := by decide +kernel
theorem d_Reader_readOne_177 : decode M_Reader_readOne.2.1 177 = .ok (.iconst 1, 1) := by decide +kernel
theorem d_Reader_readOne_178 : decode M_Reader_readOne.2.1 178 = .ok (.if_icmp .ne 7, 3) := by decide +kernel
theorem d_Reader_readOne_181 : decode M_Reader_readOne.2.1 181 = .ok (.iconst 1, 1) := by decide +kernel
theorem d_Reader_readOne_182 : decode M_Reader_readOne.2.1 182 = .ok (.goto 4, 3) := by decide +kernel
theorem d_Reader_readOne_185 : decode M_Reader_readOne.2.1 185 = .ok (.iconst 0, 1) := by decide +kernel
theorem d_Reader_readOne_186 : decode M_Reader_readOne.2.1 186 = .ok (.bipush (-39), 2) := by decide +kernel
theorem d_Reader_readOne_188 : decode M_Reader_readOne.2.1 188 = .ok (.invokevirtual 96, 3) := by decide +kernel
theorem d_Reader_readOne_191 : decode M_Reader_readOne.2.1 191 = .ok (.iconst 1, 1) := by decide +kernel
theorem d_Reader_readOne_192 : decode M_Reader_readOne.2.1 192 = .ok (.ireturn, 1) := by decide +kernel
-- Ww_within
def f_Ww_within (a0 : Int32) (a1 : Int32) : Int32 := (if a0 < 0 then 0 else (if a1 ≤ a0 then 0 else 1))
theorem t_Ww_within (a0 : Int32) (a1 : Int32) (V : xV) (L : xL) (res : Int32) (h : f_Ww_within a0 a1 = res) : xRuns (1) M_Ww_within [.int a0, .int a1] (SH, V, L) (fun o h' => o = some (.int res) ∧ h' = (SH, V, L)) := by
  refine xRuns_of (by decide) (Nat.le_of_ble_eq_true rfl) ?_
  unfold f_Ww_within at h
  show X M_Ww_within (xRm (1) M_Ww_within) (xZ M_Ww_within (fun o h' => o = some (.int res) ∧ h' = (SH, V, L))) SH V L 0 0 0 [(0, .int a0), (1, .int a1)] []
  refine x_iload_n 0 d_Ww_within_0 rfl rfl ?_
  refine x_if_lt 13 d_Ww_within_1 (by decide) (fun c1 => ?_) (fun c1 => ?_)
  · replace h := xpos c1 h
    refine x_iconst 0 d_Ww_within_13 (by decide) ?_
    obtain rfl := h
    exact x_zreturn rfl rfl d_Ww_within_14 (Nat.le_refl _) (Nat.le_refl _) ⟨rfl, rfl⟩
  · replace h := xneg c1 h
    refine x_iload_n 0 d_Ww_within_4 rfl rfl ?_
    refine x_iload_n 1 d_Ww_within_5 rfl rfl ?_
    refine x_icmp_ge 13 d_Ww_within_6 (by decide) (fun c2 => ?_) (fun c2 => ?_)
    · replace h := xpos c2 h
      refine x_iconst 0 d_Ww_within_13 (by decide) ?_
      obtain rfl := h
      exact x_zreturn rfl rfl d_Ww_within_14 (Nat.le_refl _) (Nat.le_refl _) ⟨rfl, rfl⟩
    · replace h := xneg c2 h
      refine x_iconst 1 d_Ww_within_9 (by decide) ?_
      refine x_goto 14 d_Ww_within_10 (by decide) ?_
      obtain rfl := h
      exact x_zreturn rfl rfl d_Ww_within_14 (Nat.le_refl _) (Nat.le_refl _) ⟨rfl, rfl⟩
-- Rolls_enrol
def f_Rolls_enrol (a1 : Int32) (a2 : Int32) (a3 : Int32) (V : xV) : Option (Int32 × xV) := (if ¬ (f_Ww_within (V 1 7) 12) = 0 then (if xI (V 1 7) 12 = true then (if xI ((x2 V 2 ((V 1 7).toNatClampNeg) a1) 1 7) 12 = true then (if xI ((x2 (x2 V 2 ((V 1 7).toNatClampNeg) a1) 3 (((x2 V 2 ((V 1 7).toNatClampNeg) a1) 1 7).toNatClampNeg) a2) 1 7) 12 = true then some (((x2 (x2 (x2 (x2 V 2 ((V 1 7).toNatClampNeg) a1) 3 (((x2 V 2 ((V 1 7).toNatClampNeg) a1) 1 7).toNatClampNeg) a2) 4 (((x2 (x2 V 2 ((V 1 7).toNatClampNeg) a1) 3 (((x2 V 2 ((V 1 7).toNatClampNeg) a1) 1 7).toNatClampNeg) a2) 1 7).toNatClampNeg) a3) 1 7 (((x2 (x2 (x2 V 2 ((V 1 7).toNatClampNeg) a1) 3 (((x2 V 2 ((V 1 7).toNatClampNeg) a1) 1 7).toNatClampNeg) a2) 4 (((x2 (x2 V 2 ((V 1 7).toNatClampNeg) a1) 3 (((x2 V 2 ((V 1 7).toNatClampNeg) a1) 1 7).toNatClampNeg) a2) 1 7).toNatClampNeg) a3) 1 7) + 1)) 1 7) - 1, x2 (x2 (x2 (x2 V 2 ((V 1 7).toNatClampNeg) a1) 3 (((x2 V 2 ((V 1 7).toNatClampNeg) a1) 1 7).toNatClampNeg) a2) 4 (((x2 (x2 V 2 ((V 1 7).toNatClampNeg) a1) 3 (((x2 V 2 ((V 1 7).toNatClampNeg) a1) 1 7).toNatClampNeg) a2) 1 7).toNatClampNeg) a3) 1 7 (((x2 (x2 (x2 V 2 ((V 1 7).toNatClampNeg) a1) 3 (((x2 V 2 ((V 1 7).toNatClampNeg) a1) 1 7).toNatClampNeg) a2) 4 (((x2 (x2 V 2 ((V 1 7).toNatClampNeg) a1) 3 (((x2 V 2 ((V 1 7).toNatClampNeg) a1) 1 7).toNatClampNeg) a2) 1 7).toNatClampNeg) a3) 1 7) + 1)) else none) else none) else none) else some ((-1), V))
theorem t_Rolls_enrol (a1 : Int32) (a2 : Int32) (a3 : Int32) (V : xV) (L : xL) (res : Int32 × xV) (h : f_Rolls_enrol a1 a2 a3 V = some res) : xRuns (2) M_Rolls_enrol [.ref 1, .int a1, .int a2, .int a3] (SH, V, L) (fun o h' => o = some (.int res.1) ∧ h' = (SH, res.2, L)) := by
  refine xRuns_of (by decide) (Nat.le_of_ble_eq_true rfl) ?_
  unfold f_Rolls_enrol at h
  show X M_Rolls_enrol (xRm (2) M_Rolls_enrol) (xZ M_Rolls_enrol (fun o h' => o = some (.int res.1) ∧ h' = (SH, res.2, L))) SH V L 0 0 0 [(0, .ref 1), (1, .int a1), (2, .int a2), (3, .int a3)] []
  refine x_aload_n 0 d_Rolls_enrol_0 rfl rfl ?_
  refine x_getI f_Rolls_49 sh_1 rfl d_Rolls_enrol_1 ?_
  refine x_bipush 12 d_Rolls_enrol_4 (by decide) ?_
  refine x_callSN0 e_Rolls_64 (t_Ww_within (V 1 7) 12 V L _ rfl) rfl rfl rfl (Nat.le_of_ble_eq_true rfl) (xfit_of (by omega) (Nat.le_of_ble_eq_true rfl)) (Nat.zero_le _) (Nat.zero_le _) d_Rolls_enrol_6 ?_
  refine x_if_ne 14 d_Rolls_enrol_9 (by decide) (fun c2 => ?_) (fun c2 => ?_)
  · replace h := xpos c2 h
    refine x_aload_n 0 d_Rolls_enrol_14 rfl rfl ?_
    refine x_getP (q := 2) f_Rolls_9 sh_1 rfl d_Rolls_enrol_15 ?_
    refine x_aload_n 0 d_Rolls_enrol_18 rfl rfl ?_
    refine x_getI f_Rolls_49 sh_1 rfl d_Rolls_enrol_19 ?_
    refine x_iload_n 1 d_Rolls_enrol_22 rfl rfl ?_
    obtain ⟨c3, h⟩ := xguard h
    refine x_iastore sh_2 c3 d_Rolls_enrol_23 ?_
    refine x_aload_n 0 d_Rolls_enrol_24 rfl rfl ?_
    refine x_getP (q := 3) f_Rolls_15 sh_1 rfl d_Rolls_enrol_25 ?_
    refine x_aload_n 0 d_Rolls_enrol_28 rfl rfl ?_
    refine x_getI f_Rolls_49 sh_1 rfl d_Rolls_enrol_29 ?_
    refine x_iload_n 2 d_Rolls_enrol_32 rfl rfl ?_
    obtain ⟨c4, h⟩ := xguard h
    refine x_iastore sh_3 c4 d_Rolls_enrol_33 ?_
    refine x_aload_n 0 d_Rolls_enrol_34 rfl rfl ?_
    refine x_getP (q := 4) f_Rolls_18 sh_1 rfl d_Rolls_enrol_35 ?_
    refine x_aload_n 0 d_Rolls_enrol_38 rfl rfl ?_
    refine x_getI f_Rolls_49 sh_1 rfl d_Rolls_enrol_39 ?_
    refine x_iload_n 3 d_Rolls_enrol_42 rfl rfl ?_
    obtain ⟨c5, h⟩ := xguard h
    refine x_iastore sh_4 c5 d_Rolls_enrol_43 ?_
    refine x_aload_n 0 d_Rolls_enrol_44 rfl rfl ?_
    refine x_dup d_Rolls_enrol_45 rfl ?_
    refine x_getI f_Rolls_49 sh_1 rfl d_Rolls_enrol_46 ?_
    refine x_iconst 1 d_Rolls_enrol_49 (by decide) ?_
    refine x_iadd d_Rolls_enrol_50 ?_
    refine x_putI f_Rolls_49 sh_1 rfl rfl rfl d_Rolls_enrol_51 ?_
    refine x_aload_n 0 d_Rolls_enrol_54 rfl rfl ?_
    refine x_getI f_Rolls_49 sh_1 rfl d_Rolls_enrol_55 ?_
    refine x_iconst 1 d_Rolls_enrol_58 (by decide) ?_
    refine x_isub d_Rolls_enrol_59 ?_
    obtain rfl := Option.some.inj h
    exact x_ireturn rfl d_Rolls_enrol_60 (Nat.le_refl _) (Nat.le_refl _) ⟨rfl, rfl⟩
  · replace h := xneg c2 h
    refine x_iconst (-1) d_Rolls_enrol_12 (by decide) ?_
    obtain rfl := Option.some.inj h
    exact x_ireturn rfl d_Rolls_enrol_13 (Nat.le_refl _) (Nat.le_refl _) ⟨rfl, rfl⟩
-- Ww_folk
def f_Ww_folk (a1 : Int32) (a2 : Int32) (a3 : Int32) (V : xV) : Option (Int32 × xV) := (if (f_Ww_within a1 4) = 0 then some ((-1), V) else (if (f_Ww_within a2 10) = 0 then some ((-1), V) else (if ¬ (f_Ww_within a3 10) = 0 then (Option.bind (f_Rolls_enrol a1 a2 a3 V) fun p7 => some (p7.1, p7.2)) else some ((-1), V))))
theorem t_Ww_folk (a1 : Int32) (a2 : Int32) (a3 : Int32) (V : xV) (L : xL) (res : Int32 × xV) (h : f_Ww_folk a1 a2 a3 V = some res) : xRuns (3) M_Ww_folk [.ref 0, .int a1, .int a2, .int a3] (SH, V, L) (fun o h' => o = some (.int res.1) ∧ h' = (SH, res.2, L)) := by
  refine xRuns_of (by decide) (Nat.le_of_ble_eq_true rfl) ?_
  unfold f_Ww_folk at h
  show X M_Ww_folk (xRm (3) M_Ww_folk) (xZ M_Ww_folk (fun o h' => o = some (.int res.1) ∧ h' = (SH, res.2, L))) SH V L 0 0 0 [(0, .ref 0), (1, .int a1), (2, .int a2), (3, .int a3)] []
  refine x_iload_n 1 d_Ww_folk_0 rfl rfl ?_
  refine x_iconst 4 d_Ww_folk_1 (by decide) ?_
  refine x_callS0 e_Ww_80 (t_Ww_within a1 4 V L _ rfl) rfl rfl rfl (Nat.le_of_ble_eq_true rfl) (xfit_of (by omega) (Nat.le_of_ble_eq_true rfl)) (Nat.zero_le _) (Nat.zero_le _) d_Ww_folk_2 ?_
  refine x_if_eq 26 d_Ww_folk_5 (by decide) (fun c2 => ?_) (fun c2 => ?_)
  · replace h := xpos c2 h
    refine x_iconst (-1) d_Ww_folk_26 (by decide) ?_
    obtain rfl := Option.some.inj h
    exact x_ireturn rfl d_Ww_folk_27 (Nat.le_refl _) (Nat.le_refl _) ⟨rfl, rfl⟩
  · replace h := xneg c2 h
    refine x_iload_n 2 d_Ww_folk_8 rfl rfl ?_
    refine x_bipush 10 d_Ww_folk_9 (by decide) ?_
    refine x_callS0 e_Ww_80 (t_Ww_within a2 10 V L _ rfl) rfl rfl rfl (Nat.le_of_ble_eq_true rfl) (xfit_of (by omega) (Nat.le_of_ble_eq_true rfl)) (Nat.zero_le _) (Nat.zero_le _) d_Ww_folk_11 ?_
    refine x_if_eq 26 d_Ww_folk_14 (by decide) (fun c4 => ?_) (fun c4 => ?_)
    · replace h := xpos c4 h
      refine x_iconst (-1) d_Ww_folk_26 (by decide) ?_
      obtain rfl := Option.some.inj h
      exact x_ireturn rfl d_Ww_folk_27 (Nat.le_refl _) (Nat.le_refl _) ⟨rfl, rfl⟩
    · replace h := xneg c4 h
      refine x_iload_n 3 d_Ww_folk_17 rfl rfl ?_
      refine x_bipush 10 d_Ww_folk_18 (by decide) ?_
      refine x_callS0 e_Ww_80 (t_Ww_within a3 10 V L _ rfl) rfl rfl rfl (Nat.le_of_ble_eq_true rfl) (xfit_of (by omega) (Nat.le_of_ble_eq_true rfl)) (Nat.zero_le _) (Nat.zero_le _) d_Ww_folk_20 ?_
      refine x_if_ne 28 d_Ww_folk_23 (by decide) (fun c6 => ?_) (fun c6 => ?_)
      · replace h := xpos c6 h
        refine x_aload_n 0 d_Ww_folk_28 rfl rfl ?_
        refine x_getP (q := 1) f_Ww_10 sh_0 rfl d_Ww_folk_29 ?_
        refine x_iload_n 1 d_Ww_folk_32 rfl rfl ?_
        refine x_iload_n 2 d_Ww_folk_33 rfl rfl ?_
        refine x_iload_n 3 d_Ww_folk_34 rfl rfl ?_
        obtain ⟨p7, e8, h⟩ := xbind h
        refine x_callV0 e_Ww_84 sh_1 rfl (t_Rolls_enrol a1 a2 a3 V L _ e8) rfl rfl rfl (Nat.le_of_ble_eq_true rfl) (xfit_of (by omega) (Nat.le_of_ble_eq_true rfl)) (Nat.zero_le _) (Nat.zero_le _) d_Ww_folk_35 ?_
        obtain rfl := Option.some.inj h
        exact x_ireturn rfl d_Ww_folk_38 (Nat.le_refl _) (Nat.le_refl _) ⟨rfl, rfl⟩
      · replace h := xneg c6 h
        refine x_iconst (-1) d_Ww_folk_26 (by decide) ?_
        obtain rfl := Option.some.inj h
        exact x_ireturn rfl d_Ww_folk_27 (Nat.le_refl _) (Nat.le_refl _) ⟨rfl, rfl⟩
-- Ww_sky
def f_Ww_sky (a1 : Int32) (a2 : Int32) (V : xV) : Option (Int32 × xV) := (if (f_Ww_within a1 30) = 0 then some (0, V) else (if ¬ (f_Ww_within a2 10) = 0 then (if xI a1 30 = true then some (1, x2 V 5 a1.toNatClampNeg a2) else none) else some (0, V)))
theorem t_Ww_sky (a1 : Int32) (a2 : Int32) (V : xV) (L : xL) (res : Int32 × xV) (h : f_Ww_sky a1 a2 V = some res) : xRuns (2) M_Ww_sky [.ref 0, .int a1, .int a2] (SH, V, L) (fun o h' => o = some (.int res.1) ∧ h' = (SH, res.2, L)) := by
  refine xRuns_of (by decide) (Nat.le_of_ble_eq_true rfl) ?_
  unfold f_Ww_sky at h
  show X M_Ww_sky (xRm (2) M_Ww_sky) (xZ M_Ww_sky (fun o h' => o = some (.int res.1) ∧ h' = (SH, res.2, L))) SH V L 0 0 0 [(0, .ref 0), (1, .int a1), (2, .int a2)] []
  refine x_iload_n 1 d_Ww_sky_0 rfl rfl ?_
  refine x_bipush 30 d_Ww_sky_1 (by decide) ?_
  refine x_callS0 e_Ww_80 (t_Ww_within a1 30 V L _ rfl) rfl rfl rfl (Nat.le_of_ble_eq_true rfl) (xfit_of (by omega) (Nat.le_of_ble_eq_true rfl)) (Nat.zero_le _) (Nat.zero_le _) d_Ww_sky_3 ?_
  refine x_if_eq 18 d_Ww_sky_6 (by decide) (fun c2 => ?_) (fun c2 => ?_)
  · replace h := xpos c2 h
    refine x_iconst 0 d_Ww_sky_18 (by decide) ?_
    obtain rfl := Option.some.inj h
    exact x_zreturn rfl rfl d_Ww_sky_19 (Nat.le_refl _) (Nat.le_refl _) ⟨rfl, rfl⟩
  · replace h := xneg c2 h
    refine x_iload_n 2 d_Ww_sky_9 rfl rfl ?_
    refine x_bipush 10 d_Ww_sky_10 (by decide) ?_
    refine x_callS0 e_Ww_80 (t_Ww_within a2 10 V L _ rfl) rfl rfl rfl (Nat.le_of_ble_eq_true rfl) (xfit_of (by omega) (Nat.le_of_ble_eq_true rfl)) (Nat.zero_le _) (Nat.zero_le _) d_Ww_sky_12 ?_
    refine x_if_ne 20 d_Ww_sky_15 (by decide) (fun c4 => ?_) (fun c4 => ?_)
    · replace h := xpos c4 h
      refine x_aload_n 0 d_Ww_sky_20 rfl rfl ?_
      refine x_getP (q := 1) f_Ww_10 sh_0 rfl d_Ww_sky_21 ?_
      refine x_getP (q := 5) f_Ww_88 sh_1 rfl d_Ww_sky_24 ?_
      refine x_iload_n 1 d_Ww_sky_27 rfl rfl ?_
      refine x_iload_n 2 d_Ww_sky_28 rfl rfl ?_
      obtain ⟨c5, h⟩ := xguard h
      refine x_iastore sh_5 c5 d_Ww_sky_29 ?_
      refine x_iconst 1 d_Ww_sky_30 (by decide) ?_
      obtain rfl := Option.some.inj h
      exact x_zreturn rfl rfl d_Ww_sky_31 (Nat.le_refl _) (Nat.le_refl _) ⟨rfl, rfl⟩
    · replace h := xneg c4 h
      refine x_iconst 0 d_Ww_sky_18 (by decide) ?_
      obtain rfl := Option.some.inj h
      exact x_zreturn rfl rfl d_Ww_sky_19 (Nat.le_refl _) (Nat.le_refl _) ⟨rfl, rfl⟩
-- Rolls_wetDays
def b_Rolls_wetDays_4 (V : xV) (k4 : Int32 → Int32 → Option (Int32)) (v1 : Int32) (v2 : Int32) : Option (Int32) := (if 30 ≤ v2 then some v1 else (if xI v2 30 = true then (if (V 5 v2.toNatClampNeg) < 5 then k4 (v1 + 0) (v2 + 1) else k4 (v1 + 1) (v2 + 1)) else none))
theorem tb_Rolls_wetDays_4 {V : xV} {L : xL} (k4 : Int32 → Int32 → Option (Int32)) (res : Int32) (hk4 : ∀ (v1 : Int32) (v2 : Int32), k4 v1 v2 = some res → X M_Rolls_wetDays (xRm (1) M_Rolls_wetDays) (xZ M_Rolls_wetDays (fun o h' => o = some (.int res) ∧ h' = (SH, V, L))) SH V L 0 0 4 [(0, .ref 1), (1, .int v1), (2, .int v2)] []) (v1 : Int32) (v2 : Int32) (h : b_Rolls_wetDays_4 V k4 v1 v2 = some res) : X M_Rolls_wetDays (xRm (1) M_Rolls_wetDays) (xZ M_Rolls_wetDays (fun o h' => o = some (.int res) ∧ h' = (SH, V, L))) SH V L 0 0 4 [(0, .ref 1), (1, .int v1), (2, .int v2)] [] := by
  unfold b_Rolls_wetDays_4 at h
  refine x_iload_n 2 d_Rolls_wetDays_4 rfl rfl ?_
  refine x_bipush 30 d_Rolls_wetDays_5 (by decide) ?_
  refine x_icmp_ge 34 d_Rolls_wetDays_7 (by decide) (fun c1 => ?_) (fun c1 => ?_)
  · replace h := xpos c1 h
    refine x_iload_n 1 d_Rolls_wetDays_34 rfl rfl ?_
    obtain rfl := Option.some.inj h
    exact x_ireturn rfl d_Rolls_wetDays_35 (Nat.le_refl _) (Nat.le_refl _) ⟨rfl, rfl⟩
  · replace h := xneg c1 h
    refine x_iload_n 1 d_Rolls_wetDays_10 rfl rfl ?_
    refine x_aload_n 0 d_Rolls_wetDays_11 rfl rfl ?_
    refine x_getP (q := 5) f_Rolls_21 sh_1 rfl d_Rolls_wetDays_12 ?_
    refine x_iload_n 2 d_Rolls_wetDays_15 rfl rfl ?_
    obtain ⟨c2, h⟩ := xguard h
    refine x_iaload sh_5 c2 d_Rolls_wetDays_16 ?_
    refine x_iconst 5 d_Rolls_wetDays_17 (by decide) ?_
    refine x_icmp_lt 25 d_Rolls_wetDays_18 (by decide) (fun c3 => ?_) (fun c3 => ?_)
    · replace h := xpos c3 h
      refine x_iconst 0 d_Rolls_wetDays_25 (by decide) ?_
      refine x_iadd d_Rolls_wetDays_26 ?_
      refine x_istore_n [(1, .int (v1 + 0)), (0, .ref 1), (2, .int v2)] d_Rolls_wetDays_27 rfl (Nat.le_of_ble_eq_true rfl) rfl ?_
      refine x_iinc 2 1 [(2, .int (v2 + 1)), (1, .int (v1 + 0)), (0, .ref 1)] d_Rolls_wetDays_28 rfl (by decide) (Nat.le_of_ble_eq_true rfl) rfl ?_
      refine x_goto 4 d_Rolls_wetDays_31 (by decide) ?_
      refine x_pick [2, 1, 0] rfl ?_
      exact hk4 (v1 + 0) (v2 + 1) h
    · replace h := xneg c3 h
      refine x_iconst 1 d_Rolls_wetDays_21 (by decide) ?_
      refine x_goto 26 d_Rolls_wetDays_22 (by decide) ?_
      refine x_iadd d_Rolls_wetDays_26 ?_
      refine x_istore_n [(1, .int (v1 + 1)), (0, .ref 1), (2, .int v2)] d_Rolls_wetDays_27 rfl (Nat.le_of_ble_eq_true rfl) rfl ?_
      refine x_iinc 2 1 [(2, .int (v2 + 1)), (1, .int (v1 + 1)), (0, .ref 1)] d_Rolls_wetDays_28 rfl (by decide) (Nat.le_of_ble_eq_true rfl) rfl ?_
      refine x_goto 4 d_Rolls_wetDays_31 (by decide) ?_
      refine x_pick [2, 1, 0] rfl ?_
      exact hk4 (v1 + 1) (v2 + 1) h
def g_Rolls_wetDays_4 (V : xV) : Nat → Int32 → Int32 → Option (Int32)
  | 0, _, _ => none
  | n + 1, v1, v2 => b_Rolls_wetDays_4 V (g_Rolls_wetDays_4 V n) v1 v2
theorem tg_Rolls_wetDays_4 {V : xV} {L : xL} (res : Int32)  : ∀ (n : Nat) (v1 : Int32) (v2 : Int32), g_Rolls_wetDays_4 V n v1 v2 = some res → X M_Rolls_wetDays (xRm (1) M_Rolls_wetDays) (xZ M_Rolls_wetDays (fun o h' => o = some (.int res) ∧ h' = (SH, V, L))) SH V L 0 0 4 [(0, .ref 1), (1, .int v1), (2, .int v2)] []
  | 0, _, _, h => by cases h
  | n + 1, v1, v2, h => tb_Rolls_wetDays_4 (V := V) (L := L) (g_Rolls_wetDays_4 V n) res (tg_Rolls_wetDays_4 (V := V) (L := L) res n) v1 v2 h
def f_Rolls_wetDays (V : xV) : Option (Int32) := g_Rolls_wetDays_4 V 2000 0 0
theorem t_Rolls_wetDays  (V : xV) (L : xL) (res : Int32) (h : f_Rolls_wetDays V = some res) : xRuns (1) M_Rolls_wetDays [.ref 1] (SH, V, L) (fun o h' => o = some (.int res) ∧ h' = (SH, V, L)) := by
  refine xRuns_of (by decide) (Nat.le_of_ble_eq_true rfl) ?_
  unfold f_Rolls_wetDays at h
  show X M_Rolls_wetDays (xRm (1) M_Rolls_wetDays) (xZ M_Rolls_wetDays (fun o h' => o = some (.int res) ∧ h' = (SH, V, L))) SH V L 0 0 0 [(0, .ref 1)] []
  refine x_iconst 0 d_Rolls_wetDays_0 (by decide) ?_
  refine x_istore_n [(1, .int 0), (0, .ref 1)] d_Rolls_wetDays_1 rfl (Nat.le_of_ble_eq_true rfl) rfl ?_
  refine x_iconst 0 d_Rolls_wetDays_2 (by decide) ?_
  refine x_istore_n [(2, .int 0), (1, .int 0), (0, .ref 1)] d_Rolls_wetDays_3 rfl (Nat.le_of_ble_eq_true rfl) rfl ?_
  refine x_pick [2, 1, 0] rfl ?_
  exact tg_Rolls_wetDays_4 (V := V) (L := L) res _ 0 0 h
-- Ww_skies
def b_Ww_skies_22 (k22 : Int32 → Int32 → xV → Option (Int32 × xV)) (v2 : Int32) (v3 : Int32) (V : xV) : Option (Int32 × xV) := (if 30 ≤ v3 then (Option.bind (f_Rolls_wetDays V) fun p4 => some (p4, V)) else (if xI v3 30 = true then k22 (xrem ((v2 * 233) + 61) 30139) (v3 + 1) (x2 V 5 v3.toNatClampNeg (xrem v2 10)) else none))
theorem tb_Ww_skies_22 {L : xL} (k22 : Int32 → Int32 → xV → Option (Int32 × xV)) (res : Int32 × xV) (hk22 : ∀ (v2 : Int32) (v3 : Int32) (V : xV), k22 v2 v3 V = some res → X M_Ww_skies (xRm (2) M_Ww_skies) (xZ M_Ww_skies (fun o h' => o = some (.int res.1) ∧ h' = (SH, res.2, L))) SH V L 0 0 22 [(0, .ref 0), (2, .int v2), (3, .int v3)] []) (v2 : Int32) (v3 : Int32) (V : xV) (h : b_Ww_skies_22 k22 v2 v3 V = some res) : X M_Ww_skies (xRm (2) M_Ww_skies) (xZ M_Ww_skies (fun o h' => o = some (.int res.1) ∧ h' = (SH, res.2, L))) SH V L 0 0 22 [(0, .ref 0), (2, .int v2), (3, .int v3)] [] := by
  unfold b_Ww_skies_22 at h
  refine x_iload_n 2 d_Ww_skies_22 rfl rfl ?_
  refine x_bipush 30 d_Ww_skies_23 (by decide) ?_
  refine x_icmp_ge 60 d_Ww_skies_25 (by decide) (fun c3 => ?_) (fun c3 => ?_)
  · replace h := xpos c3 h
    refine x_aload_n 0 d_Ww_skies_60 rfl rfl ?_
    refine x_getP (q := 1) f_Ww_10 sh_0 rfl d_Ww_skies_61 ?_
    obtain ⟨p4, e5, h⟩ := xbind h
    refine x_callV0 e_Ww_92 sh_1 rfl (t_Rolls_wetDays V L _ e5) rfl rfl rfl (Nat.le_of_ble_eq_true rfl) (xfit_of (by omega) (Nat.le_of_ble_eq_true rfl)) (Nat.zero_le _) (Nat.zero_le _) d_Ww_skies_64 ?_
    obtain rfl := Option.some.inj h
    exact x_ireturn rfl d_Ww_skies_67 (Nat.le_refl _) (Nat.le_refl _) ⟨rfl, rfl⟩
  · replace h := xneg c3 h
    refine x_aload_n 0 d_Ww_skies_28 rfl rfl ?_
    refine x_getP (q := 1) f_Ww_10 sh_0 rfl d_Ww_skies_29 ?_
    refine x_getP (q := 5) f_Ww_88 sh_1 rfl d_Ww_skies_32 ?_
    refine x_iload_n 2 d_Ww_skies_35 rfl rfl ?_
    refine x_iload_n 1 d_Ww_skies_36 rfl rfl ?_
    refine x_bipush 10 d_Ww_skies_37 (by decide) ?_
    refine x_irem2 d_Ww_skies_39 (by decide) ?_
    obtain ⟨c6, h⟩ := xguard h
    refine x_iastore sh_5 c6 d_Ww_skies_40 ?_
    refine x_iload_n 1 d_Ww_skies_41 rfl rfl ?_
    refine x_sipush 233 d_Ww_skies_42 (by decide) ?_
    refine x_imul d_Ww_skies_45 ?_
    refine x_bipush 61 d_Ww_skies_46 (by decide) ?_
    refine x_iadd d_Ww_skies_48 ?_
    refine x_sipush 30139 d_Ww_skies_49 (by decide) ?_
    refine x_irem2 d_Ww_skies_52 (by decide) ?_
    refine x_istore_n [(2, .int (xrem ((v2 * 233) + 61) 30139)), (0, .ref 0), (3, .int v3)] d_Ww_skies_53 rfl (Nat.le_of_ble_eq_true rfl) rfl ?_
    refine x_iinc 2 1 [(3, .int (v3 + 1)), (2, .int (xrem ((v2 * 233) + 61) 30139)), (0, .ref 0)] d_Ww_skies_54 rfl (by decide) (Nat.le_of_ble_eq_true rfl) rfl ?_
    refine x_goto 22 d_Ww_skies_57 (by decide) ?_
    refine x_pick [2, 1, 0] rfl ?_
    exact hk22 (xrem ((v2 * 233) + 61) 30139) (v3 + 1) (x2 V 5 v3.toNatClampNeg (xrem v2 10)) h
def g_Ww_skies_22  : Nat → Int32 → Int32 → xV → Option (Int32 × xV)
  | 0, _, _, _ => none
  | n + 1, v2, v3, V => b_Ww_skies_22 (g_Ww_skies_22  n) v2 v3 V
theorem tg_Ww_skies_22 {L : xL} (res : Int32 × xV)  : ∀ (n : Nat) (v2 : Int32) (v3 : Int32) (V : xV), g_Ww_skies_22  n v2 v3 V = some res → X M_Ww_skies (xRm (2) M_Ww_skies) (xZ M_Ww_skies (fun o h' => o = some (.int res.1) ∧ h' = (SH, res.2, L))) SH V L 0 0 22 [(0, .ref 0), (2, .int v2), (3, .int v3)] []
  | 0, _, _, _, h => by cases h
  | n + 1, v2, v3, V, h => tb_Ww_skies_22 (L := L) (g_Ww_skies_22  n) res (tg_Ww_skies_22 (L := L) res n) v2 v3 V h
def f_Ww_skies (a1 : Int32) (V : xV) : Option (Int32 × xV) := (if ¬ (f_Ww_within a1 10000) = 0 then g_Ww_skies_22 2000 ((a1 * 11) + 7) 0 V else some ((-1), V))
theorem t_Ww_skies (a1 : Int32) (V : xV) (L : xL) (res : Int32 × xV) (h : f_Ww_skies a1 V = some res) : xRuns (2) M_Ww_skies [.ref 0, .int a1] (SH, V, L) (fun o h' => o = some (.int res.1) ∧ h' = (SH, res.2, L)) := by
  refine xRuns_of (by decide) (Nat.le_of_ble_eq_true rfl) ?_
  unfold f_Ww_skies at h
  show X M_Ww_skies (xRm (2) M_Ww_skies) (xZ M_Ww_skies (fun o h' => o = some (.int res.1) ∧ h' = (SH, res.2, L))) SH V L 0 0 0 [(0, .ref 0), (1, .int a1)] []
  refine x_iload_n 1 d_Ww_skies_0 rfl rfl ?_
  refine x_sipush 10000 d_Ww_skies_1 (by decide) ?_
  refine x_callS0 e_Ww_80 (t_Ww_within a1 10000 V L _ rfl) rfl rfl rfl (Nat.le_of_ble_eq_true rfl) (xfit_of (by omega) (Nat.le_of_ble_eq_true rfl)) (Nat.zero_le _) (Nat.zero_le _) d_Ww_skies_4 ?_
  refine x_if_ne 12 d_Ww_skies_7 (by decide) (fun c2 => ?_) (fun c2 => ?_)
  · replace h := xpos c2 h
    refine x_iload_n 1 d_Ww_skies_12 rfl rfl ?_
    refine x_bipush 11 d_Ww_skies_13 (by decide) ?_
    refine x_imul d_Ww_skies_15 ?_
    refine x_bipush 7 d_Ww_skies_16 (by decide) ?_
    refine x_iadd d_Ww_skies_18 ?_
    refine x_istore_n [(2, .int ((a1 * 11) + 7)), (0, .ref 0), (1, .int a1)] d_Ww_skies_19 rfl (Nat.le_of_ble_eq_true rfl) rfl ?_
    refine x_iconst 0 d_Ww_skies_20 (by decide) ?_
    refine x_istore_n [(3, .int 0), (2, .int ((a1 * 11) + 7)), (0, .ref 0), (1, .int a1)] d_Ww_skies_21 rfl (Nat.le_of_ble_eq_true rfl) rfl ?_
    refine x_pick [2, 1, 0] rfl ?_
    exact tg_Ww_skies_22 (L := L) res _ ((a1 * 11) + 7) 0 V h
  · replace h := xneg c2 h
    refine x_iconst (-1) d_Ww_skies_10 (by decide) ?_
    obtain rfl := Option.some.inj h
    exact x_ireturn rfl d_Ww_skies_11 (Nat.le_refl _) (Nat.le_refl _) ⟨rfl, rfl⟩
-- Rolls_stamp
def b_Rolls_stamp_86 (s0 : Int32) (V : xV) : Option (Int32 × xV) := some (1, x2 (x2 V 1 12 s0) 1 11 (xmin 60 (((x2 V 1 12 s0) 1 11) + 1)))
theorem tb_Rolls_stamp_86 {L : xL} (res : Int32 × xV)  (s0 : Int32) (V : xV) (h : b_Rolls_stamp_86 s0 V = some res) : X M_Rolls_stamp (xRm (2) M_Rolls_stamp) (xZ M_Rolls_stamp (fun o h' => o = some (.int res.1) ∧ h' = (SH, res.2, L))) SH V L 0 0 86 [(0, .ref 1)] [.int s0, .ref 1] := by
  unfold b_Rolls_stamp_86 at h
  refine x_putI f_Rolls_61 sh_1 rfl rfl rfl d_Rolls_stamp_86 ?_
  refine x_aload_n 0 d_Rolls_stamp_89 rfl rfl ?_
  refine x_bipush 60 d_Rolls_stamp_90 (by decide) ?_
  refine x_aload_n 0 d_Rolls_stamp_92 rfl rfl ?_
  refine x_getI f_Rolls_58 sh_1 rfl d_Rolls_stamp_93 ?_
  refine x_iconst 1 d_Rolls_stamp_96 (by decide) ?_
  refine x_iadd d_Rolls_stamp_97 ?_
  refine x_min0 li_Rolls_82 (xlib_of (by omega)) (Nat.le_of_ble_eq_true rfl) d_Rolls_stamp_98 ?_
  refine x_putI f_Rolls_58 sh_1 rfl rfl rfl d_Rolls_stamp_101 ?_
  refine x_iconst 1 d_Rolls_stamp_104 (by decide) ?_
  obtain rfl := Option.some.inj h
  exact x_zreturn rfl rfl d_Rolls_stamp_105 (Nat.le_refl _) (Nat.le_refl _) ⟨rfl, rfl⟩
def b_Rolls_stamp_64 (V : xV) : Option (Int32 × xV) := (if 60 ≤ ((V 1 12) + 1) then b_Rolls_stamp_86 0 V else b_Rolls_stamp_86 ((V 1 12) + 1) V)
theorem tb_Rolls_stamp_64 {L : xL} (res : Int32 × xV)  (V : xV) (h : b_Rolls_stamp_64 V = some res) : X M_Rolls_stamp (xRm (2) M_Rolls_stamp) (xZ M_Rolls_stamp (fun o h' => o = some (.int res.1) ∧ h' = (SH, res.2, L))) SH V L 0 0 64 [(0, .ref 1)] [] := by
  unfold b_Rolls_stamp_64 at h
  refine x_aload_n 0 d_Rolls_stamp_64 rfl rfl ?_
  refine x_aload_n 0 d_Rolls_stamp_65 rfl rfl ?_
  refine x_getI f_Rolls_61 sh_1 rfl d_Rolls_stamp_66 ?_
  refine x_iconst 1 d_Rolls_stamp_69 (by decide) ?_
  refine x_iadd d_Rolls_stamp_70 ?_
  refine x_bipush 60 d_Rolls_stamp_71 (by decide) ?_
  refine x_icmp_ge 85 d_Rolls_stamp_73 (by decide) (fun c9 => ?_) (fun c9 => ?_)
  · replace h := xpos c9 h
    refine x_iconst 0 d_Rolls_stamp_85 (by decide) ?_
    exact tb_Rolls_stamp_86 (L := L) res 0 V h
  · replace h := xneg c9 h
    refine x_aload_n 0 d_Rolls_stamp_76 rfl rfl ?_
    refine x_getI f_Rolls_61 sh_1 rfl d_Rolls_stamp_77 ?_
    refine x_iconst 1 d_Rolls_stamp_80 (by decide) ?_
    refine x_iadd d_Rolls_stamp_81 ?_
    refine x_goto 86 d_Rolls_stamp_82 (by decide) ?_
    exact tb_Rolls_stamp_86 (L := L) res ((V 1 12) + 1) V h
def f_Rolls_stamp (a1 : Int32) (a2 : Int32) (a3 : Int32) (V : xV) : Option (Int32 × xV) := (if (f_Ww_within ((a1 * 4) + a2) 120) = 0 then some (0, V) else (if xI ((a1 * 4) + a2) 120 = true then (if ¬ (V 6 ((a1 * 4) + a2).toNatClampNeg) = a3 then (if xI ((a1 * 4) + a2) 120 = true then (if (f_Ww_within ((x2 V 6 (((a1 * 4) + a2).toNatClampNeg) a3) 1 12) 60) = 0 then b_Rolls_stamp_64 (x2 V 6 (((a1 * 4) + a2).toNatClampNeg) a3) else (if xI ((x2 V 6 (((a1 * 4) + a2).toNatClampNeg) a3) 1 12) 60 = true then b_Rolls_stamp_64 (x2 (x2 V 6 (((a1 * 4) + a2).toNatClampNeg) a3) 8 (((x2 V 6 (((a1 * 4) + a2).toNatClampNeg) a3) 1 12).toNatClampNeg) ((a1 * 4) + a2)) else none)) else none) else some (0, V)) else none))
theorem t_Rolls_stamp (a1 : Int32) (a2 : Int32) (a3 : Int32) (V : xV) (L : xL) (res : Int32 × xV) (h : f_Rolls_stamp a1 a2 a3 V = some res) : xRuns (2) M_Rolls_stamp [.ref 1, .int a1, .int a2, .int a3] (SH, V, L) (fun o h' => o = some (.int res.1) ∧ h' = (SH, res.2, L)) := by
  refine xRuns_of (by decide) (Nat.le_of_ble_eq_true rfl) ?_
  unfold f_Rolls_stamp at h
  show X M_Rolls_stamp (xRm (2) M_Rolls_stamp) (xZ M_Rolls_stamp (fun o h' => o = some (.int res.1) ∧ h' = (SH, res.2, L))) SH V L 0 0 0 [(0, .ref 1), (1, .int a1), (2, .int a2), (3, .int a3)] []
  refine x_iload_n 1 d_Rolls_stamp_0 rfl rfl ?_
  refine x_iconst 4 d_Rolls_stamp_1 (by decide) ?_
  refine x_imul d_Rolls_stamp_2 ?_
  refine x_iload_n 2 d_Rolls_stamp_3 rfl rfl ?_
  refine x_iadd d_Rolls_stamp_4 ?_
  refine x_istore [(4, .int ((a1 * 4) + a2)), (0, .ref 1), (1, .int a1), (2, .int a2), (3, .int a3)] d_Rolls_stamp_5 (Nat.le_of_ble_eq_true rfl) rfl ?_
  refine x_iload 0 d_Rolls_stamp_7 rfl ?_
  refine x_aload_n 1 d_Rolls_stamp_9 rfl rfl ?_
  refine x_getP (q := 6) f_Rolls_24 sh_1 rfl d_Rolls_stamp_10 ?_
  refine x_alen 120 sh_6 (by decide) (by decide) d_Rolls_stamp_13 ?_
  refine x_callSN0 e_Rolls_64 (t_Ww_within ((a1 * 4) + a2) 120 V L _ rfl) rfl rfl rfl (Nat.le_of_ble_eq_true rfl) (xfit_of (by omega) (Nat.le_of_ble_eq_true rfl)) (Nat.zero_le _) (Nat.zero_le _) d_Rolls_stamp_14 ?_
  refine x_if_eq 31 d_Rolls_stamp_17 (by decide) (fun c2 => ?_) (fun c2 => ?_)
  · replace h := xpos c2 h
    refine x_iconst 0 d_Rolls_stamp_31 (by decide) ?_
    obtain rfl := Option.some.inj h
    exact x_zreturn rfl rfl d_Rolls_stamp_32 (Nat.le_refl _) (Nat.le_refl _) ⟨rfl, rfl⟩
  · replace h := xneg c2 h
    refine x_aload_n 1 d_Rolls_stamp_20 rfl rfl ?_
    refine x_getP (q := 6) f_Rolls_24 sh_1 rfl d_Rolls_stamp_21 ?_
    refine x_iload 0 d_Rolls_stamp_24 rfl ?_
    obtain ⟨c3, h⟩ := xguard h
    refine x_iaload sh_6 c3 d_Rolls_stamp_26 ?_
    refine x_iload_n 4 d_Rolls_stamp_27 rfl rfl ?_
    refine x_icmp_ne 33 d_Rolls_stamp_28 (by decide) (fun c4 => ?_) (fun c4 => ?_)
    · replace h := xpos c4 h
      refine x_aload_n 1 d_Rolls_stamp_33 rfl rfl ?_
      refine x_getP (q := 6) f_Rolls_24 sh_1 rfl d_Rolls_stamp_34 ?_
      refine x_iload 0 d_Rolls_stamp_37 rfl ?_
      refine x_iload_n 4 d_Rolls_stamp_39 rfl rfl ?_
      obtain ⟨c5, h⟩ := xguard h
      refine x_iastore sh_6 c5 d_Rolls_stamp_40 ?_
      refine x_aload_n 1 d_Rolls_stamp_41 rfl rfl ?_
      refine x_getI f_Rolls_61 sh_1 rfl d_Rolls_stamp_42 ?_
      refine x_bipush 60 d_Rolls_stamp_45 (by decide) ?_
      refine x_callSN0 e_Rolls_64 (t_Ww_within ((x2 V 6 (((a1 * 4) + a2).toNatClampNeg) a3) 1 12) 60 (x2 V 6 (((a1 * 4) + a2).toNatClampNeg) a3) L _ rfl) rfl rfl rfl (Nat.le_of_ble_eq_true rfl) (xfit_of (by omega) (Nat.le_of_ble_eq_true rfl)) (Nat.zero_le _) (Nat.zero_le _) d_Rolls_stamp_47 ?_
      refine x_if_eq 64 d_Rolls_stamp_50 (by decide) (fun c7 => ?_) (fun c7 => ?_)
      · replace h := xpos c7 h
        refine x_pick [1] rfl ?_
        exact tb_Rolls_stamp_64 (L := L) res (x2 V 6 (((a1 * 4) + a2).toNatClampNeg) a3) h
      · replace h := xneg c7 h
        refine x_aload_n 1 d_Rolls_stamp_53 rfl rfl ?_
        refine x_getP (q := 8) f_Rolls_30 sh_1 rfl d_Rolls_stamp_54 ?_
        refine x_aload_n 1 d_Rolls_stamp_57 rfl rfl ?_
        refine x_getI f_Rolls_61 sh_1 rfl d_Rolls_stamp_58 ?_
        refine x_iload 0 d_Rolls_stamp_61 rfl ?_
        obtain ⟨c8, h⟩ := xguard h
        refine x_iastore sh_8 c8 d_Rolls_stamp_63 ?_
        refine x_pick [1] rfl ?_
        exact tb_Rolls_stamp_64 (L := L) res (x2 (x2 V 6 (((a1 * 4) + a2).toNatClampNeg) a3) 8 (((x2 V 6 (((a1 * 4) + a2).toNatClampNeg) a3) 1 12).toNatClampNeg) ((a1 * 4) + a2)) h
    · replace h := xneg c4 h
      refine x_iconst 0 d_Rolls_stamp_31 (by decide) ?_
      obtain rfl := Option.some.inj h
      exact x_zreturn rfl rfl d_Rolls_stamp_32 (Nat.le_refl _) (Nat.le_refl _) ⟨rfl, rfl⟩
-- Ww_decree
def f_Ww_decree (a1 : Int32) (a2 : Int32) (a3 : Int32) (V : xV) : Option (Int32 × xV) := (if (f_Ww_within a1 30) = 0 then some (0, V) else (if ¬ (f_Ww_within a2 4) = 0 then (if a3 = 0 then (Option.bind (f_Rolls_stamp a1 a2 0 V) fun p6 => some (1, p6.2)) else (Option.bind (f_Rolls_stamp a1 a2 1 V) fun p8 => some (1, p8.2))) else some (0, V)))
theorem t_Ww_decree (a1 : Int32) (a2 : Int32) (a3 : Int32) (V : xV) (L : xL) (res : Int32 × xV) (h : f_Ww_decree a1 a2 a3 V = some res) : xRuns (3) M_Ww_decree [.ref 0, .int a1, .int a2, .int a3] (SH, V, L) (fun o h' => o = some (.int res.1) ∧ h' = (SH, res.2, L)) := by
  refine xRuns_of (by decide) (Nat.le_of_ble_eq_true rfl) ?_
  unfold f_Ww_decree at h
  show X M_Ww_decree (xRm (3) M_Ww_decree) (xZ M_Ww_decree (fun o h' => o = some (.int res.1) ∧ h' = (SH, res.2, L))) SH V L 0 0 0 [(0, .ref 0), (1, .int a1), (2, .int a2), (3, .int a3)] []
  refine x_iload_n 1 d_Ww_decree_0 rfl rfl ?_
  refine x_bipush 30 d_Ww_decree_1 (by decide) ?_
  refine x_callS0 e_Ww_80 (t_Ww_within a1 30 V L _ rfl) rfl rfl rfl (Nat.le_of_ble_eq_true rfl) (xfit_of (by omega) (Nat.le_of_ble_eq_true rfl)) (Nat.zero_le _) (Nat.zero_le _) d_Ww_decree_3 ?_
  refine x_if_eq 17 d_Ww_decree_6 (by decide) (fun c2 => ?_) (fun c2 => ?_)
  · replace h := xpos c2 h
    refine x_iconst 0 d_Ww_decree_17 (by decide) ?_
    obtain rfl := Option.some.inj h
    exact x_zreturn rfl rfl d_Ww_decree_18 (Nat.le_refl _) (Nat.le_refl _) ⟨rfl, rfl⟩
  · replace h := xneg c2 h
    refine x_iload_n 2 d_Ww_decree_9 rfl rfl ?_
    refine x_iconst 4 d_Ww_decree_10 (by decide) ?_
    refine x_callS0 e_Ww_80 (t_Ww_within a2 4 V L _ rfl) rfl rfl rfl (Nat.le_of_ble_eq_true rfl) (xfit_of (by omega) (Nat.le_of_ble_eq_true rfl)) (Nat.zero_le _) (Nat.zero_le _) d_Ww_decree_11 ?_
    refine x_if_ne 19 d_Ww_decree_14 (by decide) (fun c4 => ?_) (fun c4 => ?_)
    · replace h := xpos c4 h
      refine x_aload_n 0 d_Ww_decree_19 rfl rfl ?_
      refine x_getP (q := 1) f_Ww_10 sh_0 rfl d_Ww_decree_20 ?_
      refine x_iload_n 1 d_Ww_decree_23 rfl rfl ?_
      refine x_iload_n 2 d_Ww_decree_24 rfl rfl ?_
      refine x_iload_n 3 d_Ww_decree_25 rfl rfl ?_
      refine x_if_eq 33 d_Ww_decree_26 (by decide) (fun c5 => ?_) (fun c5 => ?_)
      · replace h := xpos c5 h
        refine x_iconst 0 d_Ww_decree_33 (by decide) ?_
        obtain ⟨p6, e7, h⟩ := xbind h
        refine x_callV0 e_Ww_96 sh_1 rfl (t_Rolls_stamp a1 a2 0 V L _ e7) rfl rfl rfl (Nat.le_of_ble_eq_true rfl) (xfit_of (by omega) (Nat.le_of_ble_eq_true rfl)) (Nat.zero_le _) (Nat.zero_le _) d_Ww_decree_34 ?_
        refine x_pop d_Ww_decree_37 rfl ?_
        refine x_iconst 1 d_Ww_decree_38 (by decide) ?_
        obtain rfl := Option.some.inj h
        exact x_zreturn rfl rfl d_Ww_decree_39 (Nat.le_refl _) (Nat.le_refl _) ⟨rfl, rfl⟩
      · replace h := xneg c5 h
        refine x_iconst 1 d_Ww_decree_29 (by decide) ?_
        refine x_goto 34 d_Ww_decree_30 (by decide) ?_
        obtain ⟨p8, e9, h⟩ := xbind h
        refine x_callV0 e_Ww_96 sh_1 rfl (t_Rolls_stamp a1 a2 1 V L _ e9) rfl rfl rfl (Nat.le_of_ble_eq_true rfl) (xfit_of (by omega) (Nat.le_of_ble_eq_true rfl)) (Nat.zero_le _) (Nat.zero_le _) d_Ww_decree_34 ?_
        refine x_pop d_Ww_decree_37 rfl ?_
        refine x_iconst 1 d_Ww_decree_38 (by decide) ?_
        obtain rfl := Option.some.inj h
        exact x_zreturn rfl rfl d_Ww_decree_39 (Nat.le_refl _) (Nat.le_refl _) ⟨rfl, rfl⟩
    · replace h := xneg c4 h
      refine x_iconst 0 d_Ww_decree_17 (by decide) ?_
      obtain rfl := Option.some.inj h
      exact x_zreturn rfl rfl d_Ww_decree_18 (Nat.le_refl _) (Nat.le_refl _) ⟨rfl, rfl⟩
-- Ww_chance
def f_Ww_chance (a1 : Int32) (a2 : Int32) (V : xV) : Option (Int32 × xV) := (if (f_Ww_within a1 10) = 0 then some (0, V) else (if ¬ (f_Ww_within a2 10) = 0 then (if xI a1 10 = true then some (1, x2 V 7 a1.toNatClampNeg a2) else none) else some (0, V)))
theorem t_Ww_chance (a1 : Int32) (a2 : Int32) (V : xV) (L : xL) (res : Int32 × xV) (h : f_Ww_chance a1 a2 V = some res) : xRuns (2) M_Ww_chance [.ref 0, .int a1, .int a2] (SH, V, L) (fun o h' => o = some (.int res.1) ∧ h' = (SH, res.2, L)) := by
  refine xRuns_of (by decide) (Nat.le_of_ble_eq_true rfl) ?_
  unfold f_Ww_chance at h
  show X M_Ww_chance (xRm (2) M_Ww_chance) (xZ M_Ww_chance (fun o h' => o = some (.int res.1) ∧ h' = (SH, res.2, L))) SH V L 0 0 0 [(0, .ref 0), (1, .int a1), (2, .int a2)] []
  refine x_iload_n 1 d_Ww_chance_0 rfl rfl ?_
  refine x_bipush 10 d_Ww_chance_1 (by decide) ?_
  refine x_callS0 e_Ww_80 (t_Ww_within a1 10 V L _ rfl) rfl rfl rfl (Nat.le_of_ble_eq_true rfl) (xfit_of (by omega) (Nat.le_of_ble_eq_true rfl)) (Nat.zero_le _) (Nat.zero_le _) d_Ww_chance_3 ?_
  refine x_if_eq 18 d_Ww_chance_6 (by decide) (fun c2 => ?_) (fun c2 => ?_)
  · replace h := xpos c2 h
    refine x_iconst 0 d_Ww_chance_18 (by decide) ?_
    obtain rfl := Option.some.inj h
    exact x_zreturn rfl rfl d_Ww_chance_19 (Nat.le_refl _) (Nat.le_refl _) ⟨rfl, rfl⟩
  · replace h := xneg c2 h
    refine x_iload_n 2 d_Ww_chance_9 rfl rfl ?_
    refine x_bipush 10 d_Ww_chance_10 (by decide) ?_
    refine x_callS0 e_Ww_80 (t_Ww_within a2 10 V L _ rfl) rfl rfl rfl (Nat.le_of_ble_eq_true rfl) (xfit_of (by omega) (Nat.le_of_ble_eq_true rfl)) (Nat.zero_le _) (Nat.zero_le _) d_Ww_chance_12 ?_
    refine x_if_ne 20 d_Ww_chance_15 (by decide) (fun c4 => ?_) (fun c4 => ?_)
    · replace h := xpos c4 h
      refine x_aload_n 0 d_Ww_chance_20 rfl rfl ?_
      refine x_getP (q := 1) f_Ww_10 sh_0 rfl d_Ww_chance_21 ?_
      refine x_getP (q := 7) f_Ww_100 sh_1 rfl d_Ww_chance_24 ?_
      refine x_iload_n 1 d_Ww_chance_27 rfl rfl ?_
      refine x_iload_n 2 d_Ww_chance_28 rfl rfl ?_
      obtain ⟨c5, h⟩ := xguard h
      refine x_iastore sh_7 c5 d_Ww_chance_29 ?_
      refine x_iconst 1 d_Ww_chance_30 (by decide) ?_
      obtain rfl := Option.some.inj h
      exact x_zreturn rfl rfl d_Ww_chance_31 (Nat.le_refl _) (Nat.le_refl _) ⟨rfl, rfl⟩
    · replace h := xneg c4 h
      refine x_iconst 0 d_Ww_chance_18 (by decide) ?_
      obtain rfl := Option.some.inj h
      exact x_zreturn rfl rfl d_Ww_chance_19 (Nat.le_refl _) (Nat.le_refl _) ⟨rfl, rfl⟩
-- Ww_ruin
def f_Ww_ruin (a1 : Int32) (V : xV) : Int32 × xV := (if ¬ (f_Ww_within a1 10000) = 0 then (1, x2 V 1 8 a1) else (0, V))
theorem t_Ww_ruin (a1 : Int32) (V : xV) (L : xL) (res : Int32 × xV) (h : f_Ww_ruin a1 V = res) : xRuns (2) M_Ww_ruin [.ref 0, .int a1] (SH, V, L) (fun o h' => o = some (.int res.1) ∧ h' = (SH, res.2, L)) := by
  refine xRuns_of (by decide) (Nat.le_of_ble_eq_true rfl) ?_
  unfold f_Ww_ruin at h
  show X M_Ww_ruin (xRm (2) M_Ww_ruin) (xZ M_Ww_ruin (fun o h' => o = some (.int res.1) ∧ h' = (SH, res.2, L))) SH V L 0 0 0 [(0, .ref 0), (1, .int a1)] []
  refine x_iload_n 1 d_Ww_ruin_0 rfl rfl ?_
  refine x_sipush 10000 d_Ww_ruin_1 (by decide) ?_
  refine x_callS0 e_Ww_80 (t_Ww_within a1 10000 V L _ rfl) rfl rfl rfl (Nat.le_of_ble_eq_true rfl) (xfit_of (by omega) (Nat.le_of_ble_eq_true rfl)) (Nat.zero_le _) (Nat.zero_le _) d_Ww_ruin_4 ?_
  refine x_if_ne 12 d_Ww_ruin_7 (by decide) (fun c2 => ?_) (fun c2 => ?_)
  · replace h := xpos c2 h
    refine x_aload_n 0 d_Ww_ruin_12 rfl rfl ?_
    refine x_getP (q := 1) f_Ww_10 sh_0 rfl d_Ww_ruin_13 ?_
    refine x_iload_n 1 d_Ww_ruin_16 rfl rfl ?_
    refine x_putI f_Ww_103 sh_1 rfl rfl rfl d_Ww_ruin_17 ?_
    refine x_iconst 1 d_Ww_ruin_20 (by decide) ?_
    obtain rfl := h
    exact x_zreturn rfl rfl d_Ww_ruin_21 (Nat.le_refl _) (Nat.le_refl _) ⟨rfl, rfl⟩
  · replace h := xneg c2 h
    refine x_iconst 0 d_Ww_ruin_10 (by decide) ?_
    obtain rfl := h
    exact x_zreturn rfl rfl d_Ww_ruin_11 (Nat.le_refl _) (Nat.le_refl _) ⟨rfl, rfl⟩
-- Tape_put
def b_Tape_put_3 (k3 : Int32 → Int32 → xV → Option (xV)) (v1 : Int32) (v2 : Int32) (V : xV) : Option (xV) := (if v2 < 0 then some V else (if (f_Ww_within (V 17 1) 300) = 0 then some V else (if xI (V 17 1) 300 = true then k3 v1 (v2 + (-8)) (x2 (x2 V 18 ((V 17 1).toNatClampNeg) ((v1 >>> (v2 &&& 31)) &&& 255)) 17 1 (((x2 V 18 ((V 17 1).toNatClampNeg) ((v1 >>> (v2 &&& 31)) &&& 255)) 17 1) + 1)) else none)))
theorem tb_Tape_put_3 {L : xL} (k3 : Int32 → Int32 → xV → Option (xV)) (res : xV) (hk3 : ∀ (v1 : Int32) (v2 : Int32) (V : xV), k3 v1 v2 V = some res → X M_Tape_put (xRm (2) M_Tape_put) (xZ M_Tape_put (fun o h' => o = none ∧ h' = (SH, res, L))) SH V L 0 0 3 [(0, .ref 17), (1, .int v1), (2, .int v2)] []) (v1 : Int32) (v2 : Int32) (V : xV) (h : b_Tape_put_3 k3 v1 v2 V = some res) : X M_Tape_put (xRm (2) M_Tape_put) (xZ M_Tape_put (fun o h' => o = none ∧ h' = (SH, res, L))) SH V L 0 0 3 [(0, .ref 17), (1, .int v1), (2, .int v2)] [] := by
  unfold b_Tape_put_3 at h
  refine x_iload_n 2 d_Tape_put_3 rfl rfl ?_
  refine x_if_lt 52 d_Tape_put_4 (by decide) (fun c1 => ?_) (fun c1 => ?_)
  · replace h := xpos c1 h
    obtain rfl := Option.some.inj h
    exact x_return rfl d_Tape_put_52 (Nat.le_refl _) (Nat.le_refl _) ⟨rfl, rfl⟩
  · replace h := xneg c1 h
    refine x_aload_n 0 d_Tape_put_7 rfl rfl ?_
    refine x_getI f_Tape_15 sh_17 rfl d_Tape_put_8 ?_
    refine x_sipush 300 d_Tape_put_11 (by decide) ?_
    refine x_callSN0 e_Tape_19 (t_Ww_within (V 17 1) 300 V L _ rfl) rfl rfl rfl (Nat.le_of_ble_eq_true rfl) (xfit_of (by omega) (Nat.le_of_ble_eq_true rfl)) (Nat.zero_le _) (Nat.zero_le _) d_Tape_put_14 ?_
    refine x_if_eq 52 d_Tape_put_17 (by decide) (fun c3 => ?_) (fun c3 => ?_)
    · replace h := xpos c3 h
      obtain rfl := Option.some.inj h
      exact x_return rfl d_Tape_put_52 (Nat.le_refl _) (Nat.le_refl _) ⟨rfl, rfl⟩
    · replace h := xneg c3 h
      refine x_aload_n 0 d_Tape_put_20 rfl rfl ?_
      refine x_getP (q := 18) f_Tape_9 sh_17 rfl d_Tape_put_21 ?_
      refine x_aload_n 0 d_Tape_put_24 rfl rfl ?_
      refine x_getI f_Tape_15 sh_17 rfl d_Tape_put_25 ?_
      refine x_iload_n 1 d_Tape_put_28 rfl rfl ?_
      refine x_iload_n 2 d_Tape_put_29 rfl rfl ?_
      refine x_ishr d_Tape_put_30 ?_
      refine x_sipush 255 d_Tape_put_31 (by decide) ?_
      refine x_iand d_Tape_put_34 ?_
      obtain ⟨c4, h⟩ := xguard h
      refine x_iastore sh_18 c4 d_Tape_put_35 ?_
      refine x_aload_n 0 d_Tape_put_36 rfl rfl ?_
      refine x_dup d_Tape_put_37 rfl ?_
      refine x_getI f_Tape_15 sh_17 rfl d_Tape_put_38 ?_
      refine x_iconst 1 d_Tape_put_41 (by decide) ?_
      refine x_iadd d_Tape_put_42 ?_
      refine x_putI f_Tape_15 sh_17 rfl rfl rfl d_Tape_put_43 ?_
      refine x_iinc 2 (-8) [(2, .int (v2 + (-8))), (0, .ref 17), (1, .int v1)] d_Tape_put_46 rfl (by decide) (Nat.le_of_ble_eq_true rfl) rfl ?_
      refine x_goto 3 d_Tape_put_49 (by decide) ?_
      refine x_pick [1, 2, 0] rfl ?_
      exact hk3 v1 (v2 + (-8)) (x2 (x2 V 18 ((V 17 1).toNatClampNeg) ((v1 >>> (v2 &&& 31)) &&& 255)) 17 1 (((x2 V 18 ((V 17 1).toNatClampNeg) ((v1 >>> (v2 &&& 31)) &&& 255)) 17 1) + 1)) h
def g_Tape_put_3  : Nat → Int32 → Int32 → xV → Option (xV)
  | 0, _, _, _ => none
  | n + 1, v1, v2, V => b_Tape_put_3 (g_Tape_put_3  n) v1 v2 V
theorem tg_Tape_put_3 {L : xL} (res : xV)  : ∀ (n : Nat) (v1 : Int32) (v2 : Int32) (V : xV), g_Tape_put_3  n v1 v2 V = some res → X M_Tape_put (xRm (2) M_Tape_put) (xZ M_Tape_put (fun o h' => o = none ∧ h' = (SH, res, L))) SH V L 0 0 3 [(0, .ref 17), (1, .int v1), (2, .int v2)] []
  | 0, _, _, _, h => by cases h
  | n + 1, v1, v2, V, h => tb_Tape_put_3 (L := L) (g_Tape_put_3  n) res (tg_Tape_put_3 (L := L) res n) v1 v2 V h
def f_Tape_put (a1 : Int32) (V : xV) : Option (xV) := g_Tape_put_3 2000 a1 24 V
theorem t_Tape_put (a1 : Int32) (V : xV) (L : xL) (res : xV) (h : f_Tape_put a1 V = some res) : xRuns (2) M_Tape_put [.ref 17, .int a1] (SH, V, L) (fun o h' => o = none ∧ h' = (SH, res, L)) := by
  refine xRuns_of (by decide) (Nat.le_of_ble_eq_true rfl) ?_
  unfold f_Tape_put at h
  show X M_Tape_put (xRm (2) M_Tape_put) (xZ M_Tape_put (fun o h' => o = none ∧ h' = (SH, res, L))) SH V L 0 0 0 [(0, .ref 17), (1, .int a1)] []
  refine x_bipush 24 d_Tape_put_0 (by decide) ?_
  refine x_istore_n [(2, .int 24), (0, .ref 17), (1, .int a1)] d_Tape_put_2 rfl (Nat.le_of_ble_eq_true rfl) rfl ?_
  refine x_pick [1, 2, 0] rfl ?_
  exact tg_Tape_put_3 (L := L) res _ a1 24 V h
-- Ww_feed
def f_Ww_feed (a1 : Int32) (a2 : Int32) (a3 : Int32) (a4 : Int32) (a5 : Int32) (V : xV) : Option (Int32 × xV) := (if ((V 17 1) + 20) ≤ 300 then (Option.bind (f_Tape_put a1 V) fun p2 => (Option.bind (f_Tape_put a2 p2) fun p4 => (Option.bind (f_Tape_put a3 p4) fun p6 => (Option.bind (f_Tape_put a4 p6) fun p8 => (Option.bind (f_Tape_put a5 p8) fun p10 => some (p10 17 1, p10)))))) else some ((-1), V))
theorem t_Ww_feed (a1 : Int32) (a2 : Int32) (a3 : Int32) (a4 : Int32) (a5 : Int32) (V : xV) (L : xL) (res : Int32 × xV) (h : f_Ww_feed a1 a2 a3 a4 a5 V = some res) : xRuns (3) M_Ww_feed [.ref 0, .int a1, .int a2, .int a3, .int a4, .int a5] (SH, V, L) (fun o h' => o = some (.int res.1) ∧ h' = (SH, res.2, L)) := by
  refine xRuns_of (by decide) (Nat.le_of_ble_eq_true rfl) ?_
  unfold f_Ww_feed at h
  show X M_Ww_feed (xRm (3) M_Ww_feed) (xZ M_Ww_feed (fun o h' => o = some (.int res.1) ∧ h' = (SH, res.2, L))) SH V L 0 0 0 [(0, .ref 0), (1, .int a1), (2, .int a2), (3, .int a3), (4, .int a4), (5, .int a5)] []
  refine x_aload_n 0 d_Ww_feed_0 rfl rfl ?_
  refine x_getP (q := 17) f_Ww_22 sh_0 rfl d_Ww_feed_1 ?_
  refine x_getI f_Ww_107 sh_17 rfl d_Ww_feed_4 ?_
  refine x_bipush 20 d_Ww_feed_7 (by decide) ?_
  refine x_iadd d_Ww_feed_9 ?_
  refine x_sipush 300 d_Ww_feed_10 (by decide) ?_
  refine x_icmp_le 18 d_Ww_feed_13 (by decide) (fun c1 => ?_) (fun c1 => ?_)
  · replace h := xpos c1 h
    refine x_aload_n 0 d_Ww_feed_18 rfl rfl ?_
    refine x_getP (q := 17) f_Ww_22 sh_0 rfl d_Ww_feed_19 ?_
    refine x_iload_n 1 d_Ww_feed_22 rfl rfl ?_
    obtain ⟨p2, e3, h⟩ := xbind h
    refine x_callV0v e_Ww_110 sh_17 rfl (t_Tape_put a1 V L _ e3) rfl rfl rfl (Nat.le_of_ble_eq_true rfl) (xfit_of (by omega) (Nat.le_of_ble_eq_true rfl)) (Nat.zero_le _) (Nat.zero_le _) d_Ww_feed_23 ?_
    refine x_aload_n 0 d_Ww_feed_26 rfl rfl ?_
    refine x_getP (q := 17) f_Ww_22 sh_0 rfl d_Ww_feed_27 ?_
    refine x_iload_n 2 d_Ww_feed_30 rfl rfl ?_
    obtain ⟨p4, e5, h⟩ := xbind h
    refine x_callV0v e_Ww_110 sh_17 rfl (t_Tape_put a2 p2 L _ e5) rfl rfl rfl (Nat.le_of_ble_eq_true rfl) (xfit_of (by omega) (Nat.le_of_ble_eq_true rfl)) (Nat.zero_le _) (Nat.zero_le _) d_Ww_feed_31 ?_
    refine x_aload_n 0 d_Ww_feed_34 rfl rfl ?_
    refine x_getP (q := 17) f_Ww_22 sh_0 rfl d_Ww_feed_35 ?_
    refine x_iload_n 3 d_Ww_feed_38 rfl rfl ?_
    obtain ⟨p6, e7, h⟩ := xbind h
    refine x_callV0v e_Ww_110 sh_17 rfl (t_Tape_put a3 p4 L _ e7) rfl rfl rfl (Nat.le_of_ble_eq_true rfl) (xfit_of (by omega) (Nat.le_of_ble_eq_true rfl)) (Nat.zero_le _) (Nat.zero_le _) d_Ww_feed_39 ?_
    refine x_aload_n 0 d_Ww_feed_42 rfl rfl ?_
    refine x_getP (q := 17) f_Ww_22 sh_0 rfl d_Ww_feed_43 ?_
    refine x_iload 4 d_Ww_feed_46 rfl ?_
    obtain ⟨p8, e9, h⟩ := xbind h
    refine x_callV0v e_Ww_110 sh_17 rfl (t_Tape_put a4 p6 L _ e9) rfl rfl rfl (Nat.le_of_ble_eq_true rfl) (xfit_of (by omega) (Nat.le_of_ble_eq_true rfl)) (Nat.zero_le _) (Nat.zero_le _) d_Ww_feed_48 ?_
    refine x_aload_n 0 d_Ww_feed_51 rfl rfl ?_
    refine x_getP (q := 17) f_Ww_22 sh_0 rfl d_Ww_feed_52 ?_
    refine x_iload 5 d_Ww_feed_55 rfl ?_
    obtain ⟨p10, e11, h⟩ := xbind h
    refine x_callV0v e_Ww_110 sh_17 rfl (t_Tape_put a5 p8 L _ e11) rfl rfl rfl (Nat.le_of_ble_eq_true rfl) (xfit_of (by omega) (Nat.le_of_ble_eq_true rfl)) (Nat.zero_le _) (Nat.zero_le _) d_Ww_feed_57 ?_
    refine x_aload_n 0 d_Ww_feed_60 rfl rfl ?_
    refine x_getP (q := 17) f_Ww_22 sh_0 rfl d_Ww_feed_61 ?_
    refine x_getI f_Ww_107 sh_17 rfl d_Ww_feed_64 ?_
    obtain rfl := Option.some.inj h
    exact x_ireturn rfl d_Ww_feed_67 (Nat.le_refl _) (Nat.le_refl _) ⟨rfl, rfl⟩
  · replace h := xneg c1 h
    refine x_iconst (-1) d_Ww_feed_16 (by decide) ?_
    obtain rfl := Option.some.inj h
    exact x_ireturn rfl d_Ww_feed_17 (Nat.le_refl _) (Nat.le_refl _) ⟨rfl, rfl⟩
-- Ww_end
def f_Ww_end (a1 : Int32) (V : xV) : Int32 × xV := (if a1 < 0 then ((-1), V) else (if a1 ≤ (V 17 1) then (a1, x2 V 17 1 a1) else ((-1), V)))
theorem t_Ww_end (a1 : Int32) (V : xV) (L : xL) (res : Int32 × xV) (h : f_Ww_end a1 V = res) : xRuns (1) M_Ww_end [.ref 0, .int a1] (SH, V, L) (fun o h' => o = some (.int res.1) ∧ h' = (SH, res.2, L)) := by
  refine xRuns_of (by decide) (Nat.le_of_ble_eq_true rfl) ?_
  unfold f_Ww_end at h
  show X M_Ww_end (xRm (1) M_Ww_end) (xZ M_Ww_end (fun o h' => o = some (.int res.1) ∧ h' = (SH, res.2, L))) SH V L 0 0 0 [(0, .ref 0), (1, .int a1)] []
  refine x_iload_n 1 d_Ww_end_0 rfl rfl ?_
  refine x_if_lt 15 d_Ww_end_1 (by decide) (fun c1 => ?_) (fun c1 => ?_)
  · replace h := xpos c1 h
    refine x_iconst (-1) d_Ww_end_15 (by decide) ?_
    obtain rfl := h
    exact x_ireturn rfl d_Ww_end_16 (Nat.le_refl _) (Nat.le_refl _) ⟨rfl, rfl⟩
  · replace h := xneg c1 h
    refine x_iload_n 1 d_Ww_end_4 rfl rfl ?_
    refine x_aload_n 0 d_Ww_end_5 rfl rfl ?_
    refine x_getP (q := 17) f_Ww_22 sh_0 rfl d_Ww_end_6 ?_
    refine x_getI f_Ww_107 sh_17 rfl d_Ww_end_9 ?_
    refine x_icmp_le 17 d_Ww_end_12 (by decide) (fun c2 => ?_) (fun c2 => ?_)
    · replace h := xpos c2 h
      refine x_aload_n 0 d_Ww_end_17 rfl rfl ?_
      refine x_getP (q := 17) f_Ww_22 sh_0 rfl d_Ww_end_18 ?_
      refine x_iload_n 1 d_Ww_end_21 rfl rfl ?_
      refine x_putI f_Ww_107 sh_17 rfl rfl rfl d_Ww_end_22 ?_
      refine x_iload_n 1 d_Ww_end_25 rfl rfl ?_
      obtain rfl := h
      exact x_ireturn rfl d_Ww_end_26 (Nat.le_refl _) (Nat.le_refl _) ⟨rfl, rfl⟩
    · replace h := xneg c2 h
      refine x_iconst (-1) d_Ww_end_15 (by decide) ?_
      obtain rfl := h
      exact x_ireturn rfl d_Ww_end_16 (Nat.le_refl _) (Nat.le_refl _) ⟨rfl, rfl⟩
-- Shelf_at
def f_Shelf_at (a1 : Int32) : Option (Nat) := (if (f_Ww_within a1 4) = 0 then some 0 else (if xI a1 4 = true then some (26 + 5 * a1.toNatClampNeg + 1) else none))
theorem t_Shelf_at (a1 : Int32) (V : xV) (L : xL) (res : Nat) (h : f_Shelf_at a1 = some res) : xRuns (2) M_Shelf_at [.ref 19, .int a1] (SH, V, L) (fun o h' => o = some (xnl res) ∧ h' = (SH, V, L)) := by
  refine xRuns_of (by decide) (Nat.le_of_ble_eq_true rfl) ?_
  unfold f_Shelf_at at h
  show X M_Shelf_at (xRm (2) M_Shelf_at) (xZ M_Shelf_at (fun o h' => o = some (xnl res) ∧ h' = (SH, V, L))) SH V L 0 0 0 [(0, .ref 19), (1, .int a1)] []
  refine x_iload_n 1 d_Shelf_at_0 rfl rfl ?_
  refine x_iconst 4 d_Shelf_at_1 (by decide) ?_
  refine x_callSN0 e_Shelf_26 (t_Ww_within a1 4 V L _ rfl) rfl rfl rfl (Nat.le_of_ble_eq_true rfl) (xfit_of (by omega) (Nat.le_of_ble_eq_true rfl)) (Nat.zero_le _) (Nat.zero_le _) d_Shelf_at_2 ?_
  refine x_if_eq 17 d_Shelf_at_5 (by decide) (fun c2 => ?_) (fun c2 => ?_)
  · replace h := xpos c2 h
    refine x_null d_Shelf_at_17 ?_
    obtain rfl := Option.some.inj h
    exact x_areturnN rfl d_Shelf_at_18 (Nat.le_refl _) (Nat.le_refl _) ⟨rfl, rfl⟩
  · replace h := xneg c2 h
    refine x_aload_n 0 d_Shelf_at_8 rfl rfl ?_
    refine x_getP (q := 25) f_Shelf_18 sh_19 rfl d_Shelf_at_9 ?_
    refine x_iload_n 1 d_Shelf_at_12 rfl rfl ?_
    obtain ⟨c3, h⟩ := xguard h
    refine x_aaload sh_25 c3 (law_f c3) d_Shelf_at_13 ?_
    refine x_goto 18 d_Shelf_at_14 (by decide) ?_
    obtain rfl := Option.some.inj h
    exact x_areturn rfl d_Shelf_at_18 (Nat.le_refl _) (Nat.le_refl _) ⟨rfl, rfl⟩
-- Law_clear
def f_Law_clear (q0 : Nat) (V : xV) : xV := (x2 (x2 (xfill (xfill V (q0 + 2) 6 0) (q0 + 3) 6 0) q0 4 0) q0 5 0)
theorem t_Law_clear (q0 : Nat) (hq0 : lawB q0 = true) (V : xV) (L : xL) (res : xV) (h : f_Law_clear q0 V = res) : xRuns (2) M_Law_clear [.ref q0] (SH, V, L) (fun o h' => o = none ∧ h' = (SH, res, L)) := by
  refine xRuns_of (by decide) (Nat.le_of_ble_eq_true rfl) ?_
  unfold f_Law_clear at h
  show X M_Law_clear (xRm (2) M_Law_clear) (xZ M_Law_clear (fun o h' => o = none ∧ h' = (SH, res, L))) SH V L 0 0 0 [(0, .ref q0)] []
  refine x_aload_n 0 d_Law_clear_0 rfl rfl ?_
  refine x_getP (q := q0 + 2) f_Law_15 (sh_law hq0) rfl d_Law_clear_1 ?_
  refine x_iconst 0 d_Law_clear_4 (by decide) ?_
  refine x_fill0 li_Law_24 (xfit_of (by omega) (Nat.le_of_ble_eq_true rfl)) (Nat.zero_le _) (Nat.zero_le _) (Nat.le_of_ble_eq_true rfl) (sh_law2 hq0) (Nat.le_of_ble_eq_true rfl) d_Law_clear_5 ?_
  refine x_aload_n 0 d_Law_clear_8 rfl rfl ?_
  refine x_getP (q := q0 + 3) f_Law_18 (sh_law hq0) rfl d_Law_clear_9 ?_
  refine x_iconst 0 d_Law_clear_12 (by decide) ?_
  refine x_fill0 li_Law_24 (xfit_of (by omega) (Nat.le_of_ble_eq_true rfl)) (Nat.zero_le _) (Nat.zero_le _) (Nat.le_of_ble_eq_true rfl) (sh_law3 hq0) (Nat.le_of_ble_eq_true rfl) d_Law_clear_13 ?_
  refine x_aload_n 0 d_Law_clear_16 rfl rfl ?_
  refine x_iconst 0 d_Law_clear_17 (by decide) ?_
  refine x_putI f_Law_30 (sh_law hq0) rfl rfl rfl d_Law_clear_18 ?_
  refine x_aload_n 0 d_Law_clear_21 rfl rfl ?_
  refine x_iconst 0 d_Law_clear_22 (by decide) ?_
  refine x_putI f_Law_34 (sh_law hq0) rfl rfl rfl d_Law_clear_23 ?_
  obtain rfl := h
  exact x_return rfl d_Law_clear_26 (Nat.le_refl _) (Nat.le_refl _) ⟨rfl, rfl⟩
-- Tokens_put
def f_Tokens_put (a1 : Int32) (a2 : Int32) (a3 : Int32) (V : xV) : Option (xV) := (if (f_Ww_within (V 47 3) 301) = 0 then some V else (if xI (V 47 3) 301 = true then (if xI ((x2 V 48 ((V 47 3).toNatClampNeg) a1) 47 3) 301 = true then (if xI ((x2 (x2 V 48 ((V 47 3).toNatClampNeg) a1) 49 (((x2 V 48 ((V 47 3).toNatClampNeg) a1) 47 3).toNatClampNeg) a2) 47 3) 301 = true then some (x2 (x2 (x2 (x2 V 48 ((V 47 3).toNatClampNeg) a1) 49 (((x2 V 48 ((V 47 3).toNatClampNeg) a1) 47 3).toNatClampNeg) a2) 50 (((x2 (x2 V 48 ((V 47 3).toNatClampNeg) a1) 49 (((x2 V 48 ((V 47 3).toNatClampNeg) a1) 47 3).toNatClampNeg) a2) 47 3).toNatClampNeg) a3) 47 3 (((x2 (x2 (x2 V 48 ((V 47 3).toNatClampNeg) a1) 49 (((x2 V 48 ((V 47 3).toNatClampNeg) a1) 47 3).toNatClampNeg) a2) 50 (((x2 (x2 V 48 ((V 47 3).toNatClampNeg) a1) 49 (((x2 V 48 ((V 47 3).toNatClampNeg) a1) 47 3).toNatClampNeg) a2) 47 3).toNatClampNeg) a3) 47 3) + 1)) else none) else none) else none))
theorem t_Tokens_put (a1 : Int32) (a2 : Int32) (a3 : Int32) (V : xV) (L : xL) (res : xV) (h : f_Tokens_put a1 a2 a3 V = some res) : xRuns (2) M_Tokens_put [.ref 47, .int a1, .int a2, .int a3] (SH, V, L) (fun o h' => o = none ∧ h' = (SH, res, L)) := by
  refine xRuns_of (by decide) (Nat.le_of_ble_eq_true rfl) ?_
  unfold f_Tokens_put at h
  show X M_Tokens_put (xRm (2) M_Tokens_put) (xZ M_Tokens_put (fun o h' => o = none ∧ h' = (SH, res, L))) SH V L 0 0 0 [(0, .ref 47), (1, .int a1), (2, .int a2), (3, .int a3)] []
  refine x_aload_n 0 d_Tokens_put_0 rfl rfl ?_
  refine x_getI f_Tokens_21 sh_47 rfl d_Tokens_put_1 ?_
  refine x_aload_n 0 d_Tokens_put_4 rfl rfl ?_
  refine x_getP (q := 48) f_Tokens_9 sh_47 rfl d_Tokens_put_5 ?_
  refine x_alen 301 sh_48 (by decide) (by decide) d_Tokens_put_8 ?_
  refine x_callSN0 e_Tokens_51 (t_Ww_within (V 47 3) 301 V L _ rfl) rfl rfl rfl (Nat.le_of_ble_eq_true rfl) (xfit_of (by omega) (Nat.le_of_ble_eq_true rfl)) (Nat.zero_le _) (Nat.zero_le _) d_Tokens_put_9 ?_
  refine x_if_eq 55 d_Tokens_put_12 (by decide) (fun c2 => ?_) (fun c2 => ?_)
  · replace h := xpos c2 h
    obtain rfl := Option.some.inj h
    exact x_return rfl d_Tokens_put_55 (Nat.le_refl _) (Nat.le_refl _) ⟨rfl, rfl⟩
  · replace h := xneg c2 h
    refine x_aload_n 0 d_Tokens_put_15 rfl rfl ?_
    refine x_getP (q := 48) f_Tokens_9 sh_47 rfl d_Tokens_put_16 ?_
    refine x_aload_n 0 d_Tokens_put_19 rfl rfl ?_
    refine x_getI f_Tokens_21 sh_47 rfl d_Tokens_put_20 ?_
    refine x_iload_n 1 d_Tokens_put_23 rfl rfl ?_
    obtain ⟨c3, h⟩ := xguard h
    refine x_iastore sh_48 c3 d_Tokens_put_24 ?_
    refine x_aload_n 0 d_Tokens_put_25 rfl rfl ?_
    refine x_getP (q := 49) f_Tokens_15 sh_47 rfl d_Tokens_put_26 ?_
    refine x_aload_n 0 d_Tokens_put_29 rfl rfl ?_
    refine x_getI f_Tokens_21 sh_47 rfl d_Tokens_put_30 ?_
    refine x_iload_n 2 d_Tokens_put_33 rfl rfl ?_
    obtain ⟨c4, h⟩ := xguard h
    refine x_iastore sh_49 c4 d_Tokens_put_34 ?_
    refine x_aload_n 0 d_Tokens_put_35 rfl rfl ?_
    refine x_getP (q := 50) f_Tokens_18 sh_47 rfl d_Tokens_put_36 ?_
    refine x_aload_n 0 d_Tokens_put_39 rfl rfl ?_
    refine x_getI f_Tokens_21 sh_47 rfl d_Tokens_put_40 ?_
    refine x_iload_n 3 d_Tokens_put_43 rfl rfl ?_
    obtain ⟨c5, h⟩ := xguard h
    refine x_iastore sh_50 c5 d_Tokens_put_44 ?_
    refine x_aload_n 0 d_Tokens_put_45 rfl rfl ?_
    refine x_dup d_Tokens_put_46 rfl ?_
    refine x_getI f_Tokens_21 sh_47 rfl d_Tokens_put_47 ?_
    refine x_iconst 1 d_Tokens_put_50 (by decide) ?_
    refine x_iadd d_Tokens_put_51 ?_
    refine x_putI f_Tokens_21 sh_47 rfl rfl rfl d_Tokens_put_52 ?_
    obtain rfl := Option.some.inj h
    exact x_return rfl d_Tokens_put_55 (Nat.le_refl _) (Nat.le_refl _) ⟨rfl, rfl⟩
-- Tape_at
def f_Tape_at (a1 : Int32) (V : xV) : Option (Int32) := (if (f_Ww_within a1 (V 17 1)) = 0 then some 0 else (if 300 ≤ a1 then some 0 else (if xI a1 300 = true then some (V 18 a1.toNatClampNeg) else none)))
theorem t_Tape_at (a1 : Int32) (V : xV) (L : xL) (res : Int32) (h : f_Tape_at a1 V = some res) : xRuns (2) M_Tape_at [.ref 17, .int a1] (SH, V, L) (fun o h' => o = some (.int res) ∧ h' = (SH, V, L)) := by
  refine xRuns_of (by decide) (Nat.le_of_ble_eq_true rfl) ?_
  unfold f_Tape_at at h
  show X M_Tape_at (xRm (2) M_Tape_at) (xZ M_Tape_at (fun o h' => o = some (.int res) ∧ h' = (SH, V, L))) SH V L 0 0 0 [(0, .ref 17), (1, .int a1)] []
  refine x_iload_n 1 d_Tape_at_0 rfl rfl ?_
  refine x_aload_n 0 d_Tape_at_1 rfl rfl ?_
  refine x_getI f_Tape_15 sh_17 rfl d_Tape_at_2 ?_
  refine x_callSN0 e_Tape_19 (t_Ww_within a1 (V 17 1) V L _ rfl) rfl rfl rfl (Nat.le_of_ble_eq_true rfl) (xfit_of (by omega) (Nat.le_of_ble_eq_true rfl)) (Nat.zero_le _) (Nat.zero_le _) d_Tape_at_5 ?_
  refine x_if_eq 27 d_Tape_at_8 (by decide) (fun c2 => ?_) (fun c2 => ?_)
  · replace h := xpos c2 h
    refine x_iconst 0 d_Tape_at_27 (by decide) ?_
    obtain rfl := Option.some.inj h
    exact x_ireturn rfl d_Tape_at_28 (Nat.le_refl _) (Nat.le_refl _) ⟨rfl, rfl⟩
  · replace h := xneg c2 h
    refine x_iload_n 1 d_Tape_at_11 rfl rfl ?_
    refine x_sipush 300 d_Tape_at_12 (by decide) ?_
    refine x_icmp_ge 27 d_Tape_at_15 (by decide) (fun c3 => ?_) (fun c3 => ?_)
    · replace h := xpos c3 h
      refine x_iconst 0 d_Tape_at_27 (by decide) ?_
      obtain rfl := Option.some.inj h
      exact x_ireturn rfl d_Tape_at_28 (Nat.le_refl _) (Nat.le_refl _) ⟨rfl, rfl⟩
    · replace h := xneg c3 h
      refine x_aload_n 0 d_Tape_at_18 rfl rfl ?_
      refine x_getP (q := 18) f_Tape_9 sh_17 rfl d_Tape_at_19 ?_
      refine x_iload_n 1 d_Tape_at_22 rfl rfl ?_
      obtain ⟨c4, h⟩ := xguard h
      refine x_iaload sh_18 c4 d_Tape_at_23 ?_
      refine x_goto 28 d_Tape_at_24 (by decide) ?_
      obtain rfl := Option.some.inj h
      exact x_ireturn rfl d_Tape_at_28 (Nat.le_refl _) (Nat.le_refl _) ⟨rfl, rfl⟩
-- Tokens_isLetter
def b_Tokens_isLetter_12 (v0 : Int32) : Int32 := (if v0 < 65 then 0 else (if 90 < v0 then 0 else 1))
theorem tb_Tokens_isLetter_12 {V : xV} {L : xL} (res : Int32)  (v0 : Int32) (h : b_Tokens_isLetter_12 v0 = res) : X M_Tokens_isLetter (xRm (1) M_Tokens_isLetter) (xZ M_Tokens_isLetter (fun o h' => o = some (.int res) ∧ h' = (SH, V, L))) SH V L 0 0 12 [(0, .int v0)] [] := by
  unfold b_Tokens_isLetter_12 at h
  refine x_iload_n 0 d_Tokens_isLetter_12 rfl rfl ?_
  refine x_bipush 65 d_Tokens_isLetter_13 (by decide) ?_
  refine x_icmp_lt 28 d_Tokens_isLetter_15 (by decide) (fun c3 => ?_) (fun c3 => ?_)
  · replace h := xpos c3 h
    refine x_iconst 0 d_Tokens_isLetter_28 (by decide) ?_
    obtain rfl := h
    exact x_zreturn rfl rfl d_Tokens_isLetter_29 (Nat.le_refl _) (Nat.le_refl _) ⟨rfl, rfl⟩
  · replace h := xneg c3 h
    refine x_iload_n 0 d_Tokens_isLetter_18 rfl rfl ?_
    refine x_bipush 90 d_Tokens_isLetter_19 (by decide) ?_
    refine x_icmp_gt 28 d_Tokens_isLetter_21 (by decide) (fun c4 => ?_) (fun c4 => ?_)
    · replace h := xpos c4 h
      refine x_iconst 0 d_Tokens_isLetter_28 (by decide) ?_
      obtain rfl := h
      exact x_zreturn rfl rfl d_Tokens_isLetter_29 (Nat.le_refl _) (Nat.le_refl _) ⟨rfl, rfl⟩
    · replace h := xneg c4 h
      refine x_iconst 1 d_Tokens_isLetter_24 (by decide) ?_
      refine x_goto 29 d_Tokens_isLetter_25 (by decide) ?_
      obtain rfl := h
      exact x_zreturn rfl rfl d_Tokens_isLetter_29 (Nat.le_refl _) (Nat.le_refl _) ⟨rfl, rfl⟩
def f_Tokens_isLetter (a0 : Int32) : Int32 := (if a0 < 97 then b_Tokens_isLetter_12 a0 else (if a0 ≤ 122 then 1 else b_Tokens_isLetter_12 a0))
theorem t_Tokens_isLetter (a0 : Int32) (V : xV) (L : xL) (res : Int32) (h : f_Tokens_isLetter a0 = res) : xRuns (1) M_Tokens_isLetter [.int a0] (SH, V, L) (fun o h' => o = some (.int res) ∧ h' = (SH, V, L)) := by
  refine xRuns_of (by decide) (Nat.le_of_ble_eq_true rfl) ?_
  unfold f_Tokens_isLetter at h
  show X M_Tokens_isLetter (xRm (1) M_Tokens_isLetter) (xZ M_Tokens_isLetter (fun o h' => o = some (.int res) ∧ h' = (SH, V, L))) SH V L 0 0 0 [(0, .int a0)] []
  refine x_iload_n 0 d_Tokens_isLetter_0 rfl rfl ?_
  refine x_bipush 97 d_Tokens_isLetter_1 (by decide) ?_
  refine x_icmp_lt 12 d_Tokens_isLetter_3 (by decide) (fun c1 => ?_) (fun c1 => ?_)
  · replace h := xpos c1 h
    exact tb_Tokens_isLetter_12 (V := V) (L := L) res a0 h
  · replace h := xneg c1 h
    refine x_iload_n 0 d_Tokens_isLetter_6 rfl rfl ?_
    refine x_bipush 122 d_Tokens_isLetter_7 (by decide) ?_
    refine x_icmp_le 24 d_Tokens_isLetter_9 (by decide) (fun c2 => ?_) (fun c2 => ?_)
    · replace h := xpos c2 h
      refine x_iconst 1 d_Tokens_isLetter_24 (by decide) ?_
      refine x_goto 29 d_Tokens_isLetter_25 (by decide) ?_
      obtain rfl := h
      exact x_zreturn rfl rfl d_Tokens_isLetter_29 (Nat.le_refl _) (Nat.le_refl _) ⟨rfl, rfl⟩
    · replace h := xneg c2 h
      exact tb_Tokens_isLetter_12 (V := V) (L := L) res a0 h
-- Tokens_isDigit
def f_Tokens_isDigit (a0 : Int32) : Int32 := (if a0 < 48 then 0 else (if 57 < a0 then 0 else 1))
theorem t_Tokens_isDigit (a0 : Int32) (V : xV) (L : xL) (res : Int32) (h : f_Tokens_isDigit a0 = res) : xRuns (1) M_Tokens_isDigit [.int a0] (SH, V, L) (fun o h' => o = some (.int res) ∧ h' = (SH, V, L)) := by
  refine xRuns_of (by decide) (Nat.le_of_ble_eq_true rfl) ?_
  unfold f_Tokens_isDigit at h
  show X M_Tokens_isDigit (xRm (1) M_Tokens_isDigit) (xZ M_Tokens_isDigit (fun o h' => o = some (.int res) ∧ h' = (SH, V, L))) SH V L 0 0 0 [(0, .int a0)] []
  refine x_iload_n 0 d_Tokens_isDigit_0 rfl rfl ?_
  refine x_bipush 48 d_Tokens_isDigit_1 (by decide) ?_
  refine x_icmp_lt 16 d_Tokens_isDigit_3 (by decide) (fun c1 => ?_) (fun c1 => ?_)
  · replace h := xpos c1 h
    refine x_iconst 0 d_Tokens_isDigit_16 (by decide) ?_
    obtain rfl := h
    exact x_zreturn rfl rfl d_Tokens_isDigit_17 (Nat.le_refl _) (Nat.le_refl _) ⟨rfl, rfl⟩
  · replace h := xneg c1 h
    refine x_iload_n 0 d_Tokens_isDigit_6 rfl rfl ?_
    refine x_bipush 57 d_Tokens_isDigit_7 (by decide) ?_
    refine x_icmp_gt 16 d_Tokens_isDigit_9 (by decide) (fun c2 => ?_) (fun c2 => ?_)
    · replace h := xpos c2 h
      refine x_iconst 0 d_Tokens_isDigit_16 (by decide) ?_
      obtain rfl := h
      exact x_zreturn rfl rfl d_Tokens_isDigit_17 (Nat.le_refl _) (Nat.le_refl _) ⟨rfl, rfl⟩
    · replace h := xneg c2 h
      refine x_iconst 1 d_Tokens_isDigit_12 (by decide) ?_
      refine x_goto 17 d_Tokens_isDigit_13 (by decide) ?_
      obtain rfl := h
      exact x_zreturn rfl rfl d_Tokens_isDigit_17 (Nat.le_refl _) (Nat.le_refl _) ⟨rfl, rfl⟩
-- Tokens_stopOf
def b_Tokens_stopOf_66 (V : xV) (k66 : Int32 → Int32 → Option (Int32)) (v2 : Int32) (v3 : Int32) : Option (Int32) := (if (V 17 1) ≤ v3 then some (V 17 1) else (Option.bind (f_Tape_at v3 V) fun p14 => (if (f_Tokens_isLetter v2) = 0 then (if ¬ (f_Tokens_isDigit p14) = 0 then k66 v2 (v3 + 1) else some v3) else (if ¬ (f_Tokens_isLetter p14) = 0 then k66 v2 (v3 + 1) else some v3))))
theorem tb_Tokens_stopOf_66 {V : xV} {L : xL} (k66 : Int32 → Int32 → Option (Int32)) (res : Int32) (hk66 : ∀ (v2 : Int32) (v3 : Int32), k66 v2 v3 = some res → X M_Tokens_stopOf (xRm (3) M_Tokens_stopOf) (xZ M_Tokens_stopOf (fun o h' => o = some (.int res) ∧ h' = (SH, V, L))) SH V L 0 0 66 [(0, .ref 17), (2, .int v2), (3, .int v3)] []) (v2 : Int32) (v3 : Int32) (h : b_Tokens_stopOf_66 V k66 v2 v3 = some res) : X M_Tokens_stopOf (xRm (3) M_Tokens_stopOf) (xZ M_Tokens_stopOf (fun o h' => o = some (.int res) ∧ h' = (SH, V, L))) SH V L 0 0 66 [(0, .ref 17), (2, .int v2), (3, .int v3)] [] := by
  unfold b_Tokens_stopOf_66 at h
  refine x_iload_n 2 d_Tokens_stopOf_66 rfl rfl ?_
  refine x_aload_n 0 d_Tokens_stopOf_67 rfl rfl ?_
  refine x_getI f_Tokens_25 sh_17 rfl d_Tokens_stopOf_68 ?_
  refine x_icmp_ge 115 d_Tokens_stopOf_71 (by decide) (fun c13 => ?_) (fun c13 => ?_)
  · replace h := xpos c13 h
    refine x_aload_n 0 d_Tokens_stopOf_115 rfl rfl ?_
    refine x_getI f_Tokens_25 sh_17 rfl d_Tokens_stopOf_116 ?_
    obtain rfl := Option.some.inj h
    exact x_ireturn rfl d_Tokens_stopOf_119 (Nat.le_refl _) (Nat.le_refl _) ⟨rfl, rfl⟩
  · replace h := xneg c13 h
    refine x_aload_n 0 d_Tokens_stopOf_74 rfl rfl ?_
    refine x_iload_n 2 d_Tokens_stopOf_75 rfl rfl ?_
    obtain ⟨p14, e15, h⟩ := xbind h
    refine x_callV0 e_Tokens_28 sh_17 rfl (t_Tape_at v3 V L _ e15) rfl rfl rfl (Nat.le_of_ble_eq_true rfl) (xfit_of (by omega) (Nat.le_of_ble_eq_true rfl)) (Nat.zero_le _) (Nat.zero_le _) d_Tokens_stopOf_76 ?_
    refine x_istore [(4, .int p14), (0, .ref 17), (2, .int v2), (3, .int v3)] d_Tokens_stopOf_79 (Nat.le_of_ble_eq_true rfl) rfl ?_
    refine x_iload_n 2 d_Tokens_stopOf_81 rfl rfl ?_
    refine x_callS0 e_Tokens_55 (t_Tokens_isLetter v2 V L _ rfl) rfl rfl rfl (Nat.le_of_ble_eq_true rfl) (xfit_of (by omega) (Nat.le_of_ble_eq_true rfl)) (Nat.zero_le _) (Nat.zero_le _) d_Tokens_stopOf_82 ?_
    refine x_if_eq 99 d_Tokens_stopOf_85 (by decide) (fun c17 => ?_) (fun c17 => ?_)
    · replace h := xpos c17 h
      refine x_iload 0 d_Tokens_stopOf_99 rfl ?_
      refine x_callS0 e_Tokens_36 (t_Tokens_isDigit p14 V L _ rfl) rfl rfl rfl (Nat.le_of_ble_eq_true rfl) (xfit_of (by omega) (Nat.le_of_ble_eq_true rfl)) (Nat.zero_le _) (Nat.zero_le _) d_Tokens_stopOf_101 ?_
      refine x_if_ne 109 d_Tokens_stopOf_104 (by decide) (fun c19 => ?_) (fun c19 => ?_)
      · replace h := xpos c19 h
        refine x_iinc 3 1 [(3, .int (v3 + 1)), (4, .int p14), (0, .ref 17), (2, .int v2)] d_Tokens_stopOf_109 rfl (by decide) (Nat.le_of_ble_eq_true rfl) rfl ?_
        refine x_goto 66 d_Tokens_stopOf_112 (by decide) ?_
        refine x_pick [2, 3, 0] rfl ?_
        exact hk66 v2 (v3 + 1) h
      · replace h := xneg c19 h
        refine x_iload_n 3 d_Tokens_stopOf_107 rfl rfl ?_
        obtain rfl := Option.some.inj h
        exact x_ireturn rfl d_Tokens_stopOf_108 (Nat.le_refl _) (Nat.le_refl _) ⟨rfl, rfl⟩
    · replace h := xneg c17 h
      refine x_iload 0 d_Tokens_stopOf_88 rfl ?_
      refine x_callS0 e_Tokens_55 (t_Tokens_isLetter p14 V L _ rfl) rfl rfl rfl (Nat.le_of_ble_eq_true rfl) (xfit_of (by omega) (Nat.le_of_ble_eq_true rfl)) (Nat.zero_le _) (Nat.zero_le _) d_Tokens_stopOf_90 ?_
      refine x_if_ne 109 d_Tokens_stopOf_93 (by decide) (fun c21 => ?_) (fun c21 => ?_)
      · replace h := xpos c21 h
        refine x_iinc 3 1 [(3, .int (v3 + 1)), (4, .int p14), (0, .ref 17), (2, .int v2)] d_Tokens_stopOf_109 rfl (by decide) (Nat.le_of_ble_eq_true rfl) rfl ?_
        refine x_goto 66 d_Tokens_stopOf_112 (by decide) ?_
        refine x_pick [2, 3, 0] rfl ?_
        exact hk66 v2 (v3 + 1) h
      · replace h := xneg c21 h
        refine x_goto 107 d_Tokens_stopOf_96 (by decide) ?_
        refine x_iload_n 3 d_Tokens_stopOf_107 rfl rfl ?_
        obtain rfl := Option.some.inj h
        exact x_ireturn rfl d_Tokens_stopOf_108 (Nat.le_refl _) (Nat.le_refl _) ⟨rfl, rfl⟩
def g_Tokens_stopOf_66 (V : xV) : Nat → Int32 → Int32 → Option (Int32)
  | 0, _, _ => none
  | n + 1, v2, v3 => b_Tokens_stopOf_66 V (g_Tokens_stopOf_66 V n) v2 v3
theorem tg_Tokens_stopOf_66 {V : xV} {L : xL} (res : Int32)  : ∀ (n : Nat) (v2 : Int32) (v3 : Int32), g_Tokens_stopOf_66 V n v2 v3 = some res → X M_Tokens_stopOf (xRm (3) M_Tokens_stopOf) (xZ M_Tokens_stopOf (fun o h' => o = some (.int res) ∧ h' = (SH, V, L))) SH V L 0 0 66 [(0, .ref 17), (2, .int v2), (3, .int v3)] []
  | 0, _, _, h => by cases h
  | n + 1, v2, v3, h => tb_Tokens_stopOf_66 (V := V) (L := L) (g_Tokens_stopOf_66 V n) res (tg_Tokens_stopOf_66 (V := V) (L := L) res n) v2 v3 h
def b_Tokens_stopOf_49 (V : xV) (v1 : Int32) (s0 : Int32) : Option (Int32) := (if s0 = 0 then some (v1 + 1) else some (v1 + 2))
theorem tb_Tokens_stopOf_49 {V : xV} {L : xL} (res : Int32)  (v1 : Int32) (s0 : Int32) (h : b_Tokens_stopOf_49 V v1 s0 = some res) : X M_Tokens_stopOf (xRm (3) M_Tokens_stopOf) (xZ M_Tokens_stopOf (fun o h' => o = some (.int res) ∧ h' = (SH, V, L))) SH V L 0 0 49 [(1, .int v1)] [.int s0] := by
  unfold b_Tokens_stopOf_49 at h
  refine x_istore_n [(3, .int s0), (1, .int v1)] d_Tokens_stopOf_49 rfl (Nat.le_of_ble_eq_true rfl) rfl ?_
  refine x_iload_n 0 d_Tokens_stopOf_50 rfl rfl ?_
  refine x_if_eq 60 d_Tokens_stopOf_51 (by decide) (fun c12 => ?_) (fun c12 => ?_)
  · replace h := xpos c12 h
    refine x_iload_n 1 d_Tokens_stopOf_60 rfl rfl ?_
    refine x_iconst 1 d_Tokens_stopOf_61 (by decide) ?_
    refine x_iadd d_Tokens_stopOf_62 ?_
    obtain rfl := Option.some.inj h
    exact x_ireturn rfl d_Tokens_stopOf_63 (Nat.le_refl _) (Nat.le_refl _) ⟨rfl, rfl⟩
  · replace h := xneg c12 h
    refine x_iload_n 1 d_Tokens_stopOf_54 rfl rfl ?_
    refine x_iconst 2 d_Tokens_stopOf_55 (by decide) ?_
    refine x_iadd d_Tokens_stopOf_56 ?_
    refine x_goto 63 d_Tokens_stopOf_57 (by decide) ?_
    obtain rfl := Option.some.inj h
    exact x_ireturn rfl d_Tokens_stopOf_63 (Nat.le_refl _) (Nat.le_refl _) ⟨rfl, rfl⟩
def b_Tokens_stopOf_32 (V : xV) (v1 : Int32) : Option (Int32) := (Option.bind (f_Tape_at (v1 + 1) V) fun p9 => (if ¬ p9 = 61 then b_Tokens_stopOf_49 V v1 0 else b_Tokens_stopOf_49 V v1 1))
theorem tb_Tokens_stopOf_32 {V : xV} {L : xL} (res : Int32)  (v1 : Int32) (h : b_Tokens_stopOf_32 V v1 = some res) : X M_Tokens_stopOf (xRm (3) M_Tokens_stopOf) (xZ M_Tokens_stopOf (fun o h' => o = some (.int res) ∧ h' = (SH, V, L))) SH V L 0 0 32 [(0, .ref 17), (1, .int v1)] [] := by
  unfold b_Tokens_stopOf_32 at h
  refine x_aload_n 0 d_Tokens_stopOf_32 rfl rfl ?_
  refine x_iload_n 1 d_Tokens_stopOf_33 rfl rfl ?_
  refine x_iconst 1 d_Tokens_stopOf_34 (by decide) ?_
  refine x_iadd d_Tokens_stopOf_35 ?_
  obtain ⟨p9, e10, h⟩ := xbind h
  refine x_callV0 e_Tokens_28 sh_17 rfl (t_Tape_at (v1 + 1) V L _ e10) rfl rfl rfl (Nat.le_of_ble_eq_true rfl) (xfit_of (by omega) (Nat.le_of_ble_eq_true rfl)) (Nat.zero_le _) (Nat.zero_le _) d_Tokens_stopOf_36 ?_
  refine x_bipush 61 d_Tokens_stopOf_39 (by decide) ?_
  refine x_icmp_ne 48 d_Tokens_stopOf_41 (by decide) (fun c11 => ?_) (fun c11 => ?_)
  · replace h := xpos c11 h
    refine x_iconst 0 d_Tokens_stopOf_48 (by decide) ?_
    refine x_pick [1] rfl ?_
    exact tb_Tokens_stopOf_49 (V := V) (L := L) res v1 0 h
  · replace h := xneg c11 h
    refine x_iconst 1 d_Tokens_stopOf_44 (by decide) ?_
    refine x_goto 49 d_Tokens_stopOf_45 (by decide) ?_
    refine x_pick [1] rfl ?_
    exact tb_Tokens_stopOf_49 (V := V) (L := L) res v1 1 h
def f_Tokens_stopOf (a1 : Int32) (V : xV) : Option (Int32) := (Option.bind (f_Tape_at a1 V) fun p1 => (if ¬ (f_Tokens_isLetter p1) = 0 then g_Tokens_stopOf_66 V 2000 p1 a1 else (if ¬ (f_Tokens_isDigit p1) = 0 then g_Tokens_stopOf_66 V 2000 p1 a1 else (if p1 = 60 then b_Tokens_stopOf_32 V a1 else (if ¬ p1 = 62 then b_Tokens_stopOf_49 V a1 0 else b_Tokens_stopOf_32 V a1)))))
theorem t_Tokens_stopOf (a1 : Int32) (V : xV) (L : xL) (res : Int32) (h : f_Tokens_stopOf a1 V = some res) : xRuns (3) M_Tokens_stopOf [.ref 17, .int a1] (SH, V, L) (fun o h' => o = some (.int res) ∧ h' = (SH, V, L)) := by
  refine xRuns_of (by decide) (Nat.le_of_ble_eq_true rfl) ?_
  unfold f_Tokens_stopOf at h
  show X M_Tokens_stopOf (xRm (3) M_Tokens_stopOf) (xZ M_Tokens_stopOf (fun o h' => o = some (.int res) ∧ h' = (SH, V, L))) SH V L 0 0 0 [(0, .ref 17), (1, .int a1)] []
  refine x_aload_n 0 d_Tokens_stopOf_0 rfl rfl ?_
  refine x_iload_n 1 d_Tokens_stopOf_1 rfl rfl ?_
  obtain ⟨p1, e2, h⟩ := xbind h
  refine x_callV0 e_Tokens_28 sh_17 rfl (t_Tape_at a1 V L _ e2) rfl rfl rfl (Nat.le_of_ble_eq_true rfl) (xfit_of (by omega) (Nat.le_of_ble_eq_true rfl)) (Nat.zero_le _) (Nat.zero_le _) d_Tokens_stopOf_2 ?_
  refine x_istore_n [(2, .int p1), (0, .ref 17), (1, .int a1)] d_Tokens_stopOf_5 rfl (Nat.le_of_ble_eq_true rfl) rfl ?_
  refine x_iload_n 0 d_Tokens_stopOf_6 rfl rfl ?_
  refine x_callS0 e_Tokens_55 (t_Tokens_isLetter p1 V L _ rfl) rfl rfl rfl (Nat.le_of_ble_eq_true rfl) (xfit_of (by omega) (Nat.le_of_ble_eq_true rfl)) (Nat.zero_le _) (Nat.zero_le _) d_Tokens_stopOf_7 ?_
  refine x_if_ne 64 d_Tokens_stopOf_10 (by decide) (fun c4 => ?_) (fun c4 => ?_)
  · replace h := xpos c4 h
    refine x_iload_n 2 d_Tokens_stopOf_64 rfl rfl ?_
    refine x_istore_n [(3, .int a1), (2, .int p1), (0, .ref 17), (1, .int a1)] d_Tokens_stopOf_65 rfl (Nat.le_of_ble_eq_true rfl) rfl ?_
    refine x_pick [2, 1, 0] rfl ?_
    exact tg_Tokens_stopOf_66 (V := V) (L := L) res _ p1 a1 h
  · replace h := xneg c4 h
    refine x_iload_n 0 d_Tokens_stopOf_13 rfl rfl ?_
    refine x_callS0 e_Tokens_36 (t_Tokens_isDigit p1 V L _ rfl) rfl rfl rfl (Nat.le_of_ble_eq_true rfl) (xfit_of (by omega) (Nat.le_of_ble_eq_true rfl)) (Nat.zero_le _) (Nat.zero_le _) d_Tokens_stopOf_14 ?_
    refine x_if_ne 64 d_Tokens_stopOf_17 (by decide) (fun c6 => ?_) (fun c6 => ?_)
    · replace h := xpos c6 h
      refine x_iload_n 2 d_Tokens_stopOf_64 rfl rfl ?_
      refine x_istore_n [(3, .int a1), (2, .int p1), (0, .ref 17), (1, .int a1)] d_Tokens_stopOf_65 rfl (Nat.le_of_ble_eq_true rfl) rfl ?_
      refine x_pick [2, 1, 0] rfl ?_
      exact tg_Tokens_stopOf_66 (V := V) (L := L) res _ p1 a1 h
    · replace h := xneg c6 h
      refine x_iload_n 0 d_Tokens_stopOf_20 rfl rfl ?_
      refine x_bipush 60 d_Tokens_stopOf_21 (by decide) ?_
      refine x_icmp_eq 32 d_Tokens_stopOf_23 (by decide) (fun c7 => ?_) (fun c7 => ?_)
      · replace h := xpos c7 h
        refine x_pick [1, 2] rfl ?_
        exact tb_Tokens_stopOf_32 (V := V) (L := L) res a1 h
      · replace h := xneg c7 h
        refine x_iload_n 0 d_Tokens_stopOf_26 rfl rfl ?_
        refine x_bipush 62 d_Tokens_stopOf_27 (by decide) ?_
        refine x_icmp_ne 48 d_Tokens_stopOf_29 (by decide) (fun c8 => ?_) (fun c8 => ?_)
        · replace h := xpos c8 h
          refine x_iconst 0 d_Tokens_stopOf_48 (by decide) ?_
          refine x_pick [2] rfl ?_
          exact tb_Tokens_stopOf_49 (V := V) (L := L) res a1 0 h
        · replace h := xneg c8 h
          refine x_pick [1, 2] rfl ?_
          exact tb_Tokens_stopOf_32 (V := V) (L := L) res a1 h
-- Tokens_numberOf
def b_Tokens_numberOf_5 (V : xV) (k5 : Int32 → Int32 → Int32 → Option (Int32)) (v2 : Int32) (v3 : Int32) (v4 : Int32) : Option (Int32) := (if v2 ≤ v4 then some v3 else (Option.bind (f_Tape_at v4 V) fun p2 => k5 v2 (xmin 10000 (((v3 * 10) + p2) - 48)) (v4 + 1)))
theorem tb_Tokens_numberOf_5 {V : xV} {L : xL} (k5 : Int32 → Int32 → Int32 → Option (Int32)) (res : Int32) (hk5 : ∀ (v2 : Int32) (v3 : Int32) (v4 : Int32), k5 v2 v3 v4 = some res → X M_Tokens_numberOf (xRm (3) M_Tokens_numberOf) (xZ M_Tokens_numberOf (fun o h' => o = some (.int res) ∧ h' = (SH, V, L))) SH V L 0 0 5 [(0, .ref 17), (2, .int v2), (3, .int v3), (4, .int v4)] []) (v2 : Int32) (v3 : Int32) (v4 : Int32) (h : b_Tokens_numberOf_5 V k5 v2 v3 v4 = some res) : X M_Tokens_numberOf (xRm (3) M_Tokens_numberOf) (xZ M_Tokens_numberOf (fun o h' => o = some (.int res) ∧ h' = (SH, V, L))) SH V L 0 0 5 [(0, .ref 17), (2, .int v2), (3, .int v3), (4, .int v4)] [] := by
  unfold b_Tokens_numberOf_5 at h
  refine x_iload 3 d_Tokens_numberOf_5 rfl ?_
  refine x_iload_n 1 d_Tokens_numberOf_7 rfl rfl ?_
  refine x_icmp_ge 38 d_Tokens_numberOf_8 (by decide) (fun c1 => ?_) (fun c1 => ?_)
  · replace h := xpos c1 h
    refine x_iload_n 2 d_Tokens_numberOf_38 rfl rfl ?_
    obtain rfl := Option.some.inj h
    exact x_ireturn rfl d_Tokens_numberOf_39 (Nat.le_refl _) (Nat.le_refl _) ⟨rfl, rfl⟩
  · replace h := xneg c1 h
    refine x_sipush 10000 d_Tokens_numberOf_11 (by decide) ?_
    refine x_iload_n 2 d_Tokens_numberOf_14 rfl rfl ?_
    refine x_bipush 10 d_Tokens_numberOf_15 (by decide) ?_
    refine x_imul d_Tokens_numberOf_17 ?_
    refine x_aload_n 0 d_Tokens_numberOf_18 rfl rfl ?_
    refine x_iload 3 d_Tokens_numberOf_19 rfl ?_
    obtain ⟨p2, e3, h⟩ := xbind h
    refine x_callV0 e_Tokens_28 sh_17 rfl (t_Tape_at v4 V L _ e3) rfl rfl rfl (Nat.le_of_ble_eq_true rfl) (xfit_of (by omega) (Nat.le_of_ble_eq_true rfl)) (Nat.zero_le _) (Nat.zero_le _) d_Tokens_numberOf_21 ?_
    refine x_iadd d_Tokens_numberOf_24 ?_
    refine x_bipush 48 d_Tokens_numberOf_25 (by decide) ?_
    refine x_isub d_Tokens_numberOf_27 ?_
    refine x_min0 li_Tokens_77 (xlib_of (by omega)) (Nat.le_of_ble_eq_true rfl) d_Tokens_numberOf_28 ?_
    refine x_istore_n [(3, .int (xmin 10000 (((v3 * 10) + p2) - 48))), (0, .ref 17), (2, .int v2), (4, .int v4)] d_Tokens_numberOf_31 rfl (Nat.le_of_ble_eq_true rfl) rfl ?_
    refine x_iinc 3 1 [(4, .int (v4 + 1)), (3, .int (xmin 10000 (((v3 * 10) + p2) - 48))), (0, .ref 17), (2, .int v2)] d_Tokens_numberOf_32 rfl (by decide) (Nat.le_of_ble_eq_true rfl) rfl ?_
    refine x_goto 5 d_Tokens_numberOf_35 (by decide) ?_
    refine x_pick [2, 3, 1, 0] rfl ?_
    exact hk5 v2 (xmin 10000 (((v3 * 10) + p2) - 48)) (v4 + 1) h
def g_Tokens_numberOf_5 (V : xV) : Nat → Int32 → Int32 → Int32 → Option (Int32)
  | 0, _, _, _ => none
  | n + 1, v2, v3, v4 => b_Tokens_numberOf_5 V (g_Tokens_numberOf_5 V n) v2 v3 v4
theorem tg_Tokens_numberOf_5 {V : xV} {L : xL} (res : Int32)  : ∀ (n : Nat) (v2 : Int32) (v3 : Int32) (v4 : Int32), g_Tokens_numberOf_5 V n v2 v3 v4 = some res → X M_Tokens_numberOf (xRm (3) M_Tokens_numberOf) (xZ M_Tokens_numberOf (fun o h' => o = some (.int res) ∧ h' = (SH, V, L))) SH V L 0 0 5 [(0, .ref 17), (2, .int v2), (3, .int v3), (4, .int v4)] []
  | 0, _, _, _, h => by cases h
  | n + 1, v2, v3, v4, h => tb_Tokens_numberOf_5 (V := V) (L := L) (g_Tokens_numberOf_5 V n) res (tg_Tokens_numberOf_5 (V := V) (L := L) res n) v2 v3 v4 h
def f_Tokens_numberOf (a1 : Int32) (a2 : Int32) (V : xV) : Option (Int32) := g_Tokens_numberOf_5 V 2000 a2 0 a1
theorem t_Tokens_numberOf (a1 : Int32) (a2 : Int32) (V : xV) (L : xL) (res : Int32) (h : f_Tokens_numberOf a1 a2 V = some res) : xRuns (3) M_Tokens_numberOf [.ref 17, .int a1, .int a2] (SH, V, L) (fun o h' => o = some (.int res) ∧ h' = (SH, V, L)) := by
  refine xRuns_of (by decide) (Nat.le_of_ble_eq_true rfl) ?_
  unfold f_Tokens_numberOf at h
  show X M_Tokens_numberOf (xRm (3) M_Tokens_numberOf) (xZ M_Tokens_numberOf (fun o h' => o = some (.int res) ∧ h' = (SH, V, L))) SH V L 0 0 0 [(0, .ref 17), (1, .int a1), (2, .int a2)] []
  refine x_iconst 0 d_Tokens_numberOf_0 (by decide) ?_
  refine x_istore_n [(3, .int 0), (0, .ref 17), (1, .int a1), (2, .int a2)] d_Tokens_numberOf_1 rfl (Nat.le_of_ble_eq_true rfl) rfl ?_
  refine x_iload_n 2 d_Tokens_numberOf_2 rfl rfl ?_
  refine x_istore [(4, .int a1), (3, .int 0), (0, .ref 17), (1, .int a1), (2, .int a2)] d_Tokens_numberOf_3 (Nat.le_of_ble_eq_true rfl) rfl ?_
  refine x_pick [2, 4, 1, 0] rfl ?_
  exact tg_Tokens_numberOf_5 (V := V) (L := L) res _ a2 0 a1 h
-- Tokens_signOf
def f_Tokens_signOf (a0 : Int32) (a1 : Int32) : Int32 := (if a0 = 35 then 27 else (if a0 = 40 then 32 else (if a0 = 41 then 33 else (if a0 = 42 then 30 else (if a0 = 43 then 28 else (if a0 = 45 then 29 else (if a0 = 47 then 31 else (if a0 = 59 then 34 else (if a0 = 60 then (if a1 = 0 then 22 else 23) else (if a0 = 61 then 26 else (if a0 = 62 then (if a1 = 0 then 24 else 25) else 36)))))))))))
theorem t_Tokens_signOf (a0 : Int32) (a1 : Int32) (V : xV) (L : xL) (res : Int32) (h : f_Tokens_signOf a0 a1 = res) : xRuns (1) M_Tokens_signOf [.int a0, .int a1] (SH, V, L) (fun o h' => o = some (.int res) ∧ h' = (SH, V, L)) := by
  refine xRuns_of (by decide) (Nat.le_of_ble_eq_true rfl) ?_
  unfold f_Tokens_signOf at h
  show X M_Tokens_signOf (xRm (1) M_Tokens_signOf) (xZ M_Tokens_signOf (fun o h' => o = some (.int res) ∧ h' = (SH, V, L))) SH V L 0 0 0 [(0, .int a0), (1, .int a1)] []
  refine x_iload_n 0 d_Tokens_signOf_0 rfl rfl ?_
  by_cases c1 : a0 = 35
  · replace h := xpos c1 h
    refine x_tableIn 154 155 d_Tokens_signOf_1 (by rw [c1]; decide) (by rw [c1]; decide) (by rw [c1]; rfl) (by decide) ?_
    refine x_bipush 27 d_Tokens_signOf_155 (by decide) ?_
    obtain rfl := h
    exact x_ireturn rfl d_Tokens_signOf_157 (Nat.le_refl _) (Nat.le_refl _) ⟨rfl, rfl⟩
  replace h := xneg c1 h
  by_cases c2 : a0 = 40
  · replace h := xpos c2 h
    refine x_tableIn 169 170 d_Tokens_signOf_1 (by rw [c2]; decide) (by rw [c2]; decide) (by rw [c2]; rfl) (by decide) ?_
    refine x_bipush 32 d_Tokens_signOf_170 (by decide) ?_
    obtain rfl := h
    exact x_ireturn rfl d_Tokens_signOf_172 (Nat.le_refl _) (Nat.le_refl _) ⟨rfl, rfl⟩
  replace h := xneg c2 h
  by_cases c3 : a0 = 41
  · replace h := xpos c3 h
    refine x_tableIn 172 173 d_Tokens_signOf_1 (by rw [c3]; decide) (by rw [c3]; decide) (by rw [c3]; rfl) (by decide) ?_
    refine x_bipush 33 d_Tokens_signOf_173 (by decide) ?_
    obtain rfl := h
    exact x_ireturn rfl d_Tokens_signOf_175 (Nat.le_refl _) (Nat.le_refl _) ⟨rfl, rfl⟩
  replace h := xneg c3 h
  by_cases c4 : a0 = 42
  · replace h := xpos c4 h
    refine x_tableIn 163 164 d_Tokens_signOf_1 (by rw [c4]; decide) (by rw [c4]; decide) (by rw [c4]; rfl) (by decide) ?_
    refine x_bipush 30 d_Tokens_signOf_164 (by decide) ?_
    obtain rfl := h
    exact x_ireturn rfl d_Tokens_signOf_166 (Nat.le_refl _) (Nat.le_refl _) ⟨rfl, rfl⟩
  replace h := xneg c4 h
  by_cases c5 : a0 = 43
  · replace h := xpos c5 h
    refine x_tableIn 157 158 d_Tokens_signOf_1 (by rw [c5]; decide) (by rw [c5]; decide) (by rw [c5]; rfl) (by decide) ?_
    refine x_bipush 28 d_Tokens_signOf_158 (by decide) ?_
    obtain rfl := h
    exact x_ireturn rfl d_Tokens_signOf_160 (Nat.le_refl _) (Nat.le_refl _) ⟨rfl, rfl⟩
  replace h := xneg c5 h
  by_cases c6 : a0 = 45
  · replace h := xpos c6 h
    refine x_tableIn 160 161 d_Tokens_signOf_1 (by rw [c6]; decide) (by rw [c6]; decide) (by rw [c6]; rfl) (by decide) ?_
    refine x_bipush 29 d_Tokens_signOf_161 (by decide) ?_
    obtain rfl := h
    exact x_ireturn rfl d_Tokens_signOf_163 (Nat.le_refl _) (Nat.le_refl _) ⟨rfl, rfl⟩
  replace h := xneg c6 h
  by_cases c7 : a0 = 47
  · replace h := xpos c7 h
    refine x_tableIn 166 167 d_Tokens_signOf_1 (by rw [c7]; decide) (by rw [c7]; decide) (by rw [c7]; rfl) (by decide) ?_
    refine x_bipush 31 d_Tokens_signOf_167 (by decide) ?_
    obtain rfl := h
    exact x_ireturn rfl d_Tokens_signOf_169 (Nat.le_refl _) (Nat.le_refl _) ⟨rfl, rfl⟩
  replace h := xneg c7 h
  by_cases c8 : a0 = 59
  · replace h := xpos c8 h
    refine x_tableIn 175 176 d_Tokens_signOf_1 (by rw [c8]; decide) (by rw [c8]; decide) (by rw [c8]; rfl) (by decide) ?_
    refine x_bipush 34 d_Tokens_signOf_176 (by decide) ?_
    obtain rfl := h
    exact x_ireturn rfl d_Tokens_signOf_178 (Nat.le_refl _) (Nat.le_refl _) ⟨rfl, rfl⟩
  replace h := xneg c8 h
  by_cases c9 : a0 = 60
  · replace h := xpos c9 h
    refine x_tableIn 127 128 d_Tokens_signOf_1 (by rw [c9]; decide) (by rw [c9]; decide) (by rw [c9]; rfl) (by decide) ?_
    refine x_iload_n 1 d_Tokens_signOf_128 rfl rfl ?_
    refine x_if_eq 137 d_Tokens_signOf_129 (by decide) (fun c10 => ?_) (fun c10 => ?_)
    · replace h := xpos c10 h
      refine x_bipush 22 d_Tokens_signOf_137 (by decide) ?_
      obtain rfl := h
      exact x_ireturn rfl d_Tokens_signOf_139 (Nat.le_refl _) (Nat.le_refl _) ⟨rfl, rfl⟩
    · replace h := xneg c10 h
      refine x_bipush 23 d_Tokens_signOf_132 (by decide) ?_
      refine x_goto 139 d_Tokens_signOf_134 (by decide) ?_
      obtain rfl := h
      exact x_ireturn rfl d_Tokens_signOf_139 (Nat.le_refl _) (Nat.le_refl _) ⟨rfl, rfl⟩
  replace h := xneg c9 h
  by_cases c11 : a0 = 61
  · replace h := xpos c11 h
    refine x_tableIn 151 152 d_Tokens_signOf_1 (by rw [c11]; decide) (by rw [c11]; decide) (by rw [c11]; rfl) (by decide) ?_
    refine x_bipush 26 d_Tokens_signOf_152 (by decide) ?_
    obtain rfl := h
    exact x_ireturn rfl d_Tokens_signOf_154 (Nat.le_refl _) (Nat.le_refl _) ⟨rfl, rfl⟩
  replace h := xneg c11 h
  by_cases c12 : a0 = 62
  · replace h := xpos c12 h
    refine x_tableIn 139 140 d_Tokens_signOf_1 (by rw [c12]; decide) (by rw [c12]; decide) (by rw [c12]; rfl) (by decide) ?_
    refine x_iload_n 1 d_Tokens_signOf_140 rfl rfl ?_
    refine x_if_eq 149 d_Tokens_signOf_141 (by decide) (fun c13 => ?_) (fun c13 => ?_)
    · replace h := xpos c13 h
      refine x_bipush 24 d_Tokens_signOf_149 (by decide) ?_
      obtain rfl := h
      exact x_ireturn rfl d_Tokens_signOf_151 (Nat.le_refl _) (Nat.le_refl _) ⟨rfl, rfl⟩
    · replace h := xneg c13 h
      refine x_bipush 25 d_Tokens_signOf_144 (by decide) ?_
      refine x_goto 151 d_Tokens_signOf_146 (by decide) ?_
      obtain rfl := h
      exact x_ireturn rfl d_Tokens_signOf_151 (Nat.le_refl _) (Nat.le_refl _) ⟨rfl, rfl⟩
  replace h := xneg c12 h
  by_cases c14 : a0 = 36
  · refine x_tableIn 178 179 d_Tokens_signOf_1 (by rw [c14]; decide) (by rw [c14]; decide) (by rw [c14]; rfl) (by decide) ?_
    refine x_bipush 36 d_Tokens_signOf_179 (by decide) ?_
    obtain rfl := h
    exact x_ireturn rfl d_Tokens_signOf_181 (Nat.le_refl _) (Nat.le_refl _) ⟨rfl, rfl⟩
  by_cases c15 : a0 = 37
  · refine x_tableIn 178 179 d_Tokens_signOf_1 (by rw [c15]; decide) (by rw [c15]; decide) (by rw [c15]; rfl) (by decide) ?_
    refine x_bipush 36 d_Tokens_signOf_179 (by decide) ?_
    obtain rfl := h
    exact x_ireturn rfl d_Tokens_signOf_181 (Nat.le_refl _) (Nat.le_refl _) ⟨rfl, rfl⟩
  by_cases c16 : a0 = 38
  · refine x_tableIn 178 179 d_Tokens_signOf_1 (by rw [c16]; decide) (by rw [c16]; decide) (by rw [c16]; rfl) (by decide) ?_
    refine x_bipush 36 d_Tokens_signOf_179 (by decide) ?_
    obtain rfl := h
    exact x_ireturn rfl d_Tokens_signOf_181 (Nat.le_refl _) (Nat.le_refl _) ⟨rfl, rfl⟩
  by_cases c17 : a0 = 39
  · refine x_tableIn 178 179 d_Tokens_signOf_1 (by rw [c17]; decide) (by rw [c17]; decide) (by rw [c17]; rfl) (by decide) ?_
    refine x_bipush 36 d_Tokens_signOf_179 (by decide) ?_
    obtain rfl := h
    exact x_ireturn rfl d_Tokens_signOf_181 (Nat.le_refl _) (Nat.le_refl _) ⟨rfl, rfl⟩
  by_cases c18 : a0 = 44
  · refine x_tableIn 178 179 d_Tokens_signOf_1 (by rw [c18]; decide) (by rw [c18]; decide) (by rw [c18]; rfl) (by decide) ?_
    refine x_bipush 36 d_Tokens_signOf_179 (by decide) ?_
    obtain rfl := h
    exact x_ireturn rfl d_Tokens_signOf_181 (Nat.le_refl _) (Nat.le_refl _) ⟨rfl, rfl⟩
  by_cases c19 : a0 = 46
  · refine x_tableIn 178 179 d_Tokens_signOf_1 (by rw [c19]; decide) (by rw [c19]; decide) (by rw [c19]; rfl) (by decide) ?_
    refine x_bipush 36 d_Tokens_signOf_179 (by decide) ?_
    obtain rfl := h
    exact x_ireturn rfl d_Tokens_signOf_181 (Nat.le_refl _) (Nat.le_refl _) ⟨rfl, rfl⟩
  by_cases c20 : a0 = 48
  · refine x_tableIn 178 179 d_Tokens_signOf_1 (by rw [c20]; decide) (by rw [c20]; decide) (by rw [c20]; rfl) (by decide) ?_
    refine x_bipush 36 d_Tokens_signOf_179 (by decide) ?_
    obtain rfl := h
    exact x_ireturn rfl d_Tokens_signOf_181 (Nat.le_refl _) (Nat.le_refl _) ⟨rfl, rfl⟩
  by_cases c21 : a0 = 49
  · refine x_tableIn 178 179 d_Tokens_signOf_1 (by rw [c21]; decide) (by rw [c21]; decide) (by rw [c21]; rfl) (by decide) ?_
    refine x_bipush 36 d_Tokens_signOf_179 (by decide) ?_
    obtain rfl := h
    exact x_ireturn rfl d_Tokens_signOf_181 (Nat.le_refl _) (Nat.le_refl _) ⟨rfl, rfl⟩
  by_cases c22 : a0 = 50
  · refine x_tableIn 178 179 d_Tokens_signOf_1 (by rw [c22]; decide) (by rw [c22]; decide) (by rw [c22]; rfl) (by decide) ?_
    refine x_bipush 36 d_Tokens_signOf_179 (by decide) ?_
    obtain rfl := h
    exact x_ireturn rfl d_Tokens_signOf_181 (Nat.le_refl _) (Nat.le_refl _) ⟨rfl, rfl⟩
  by_cases c23 : a0 = 51
  · refine x_tableIn 178 179 d_Tokens_signOf_1 (by rw [c23]; decide) (by rw [c23]; decide) (by rw [c23]; rfl) (by decide) ?_
    refine x_bipush 36 d_Tokens_signOf_179 (by decide) ?_
    obtain rfl := h
    exact x_ireturn rfl d_Tokens_signOf_181 (Nat.le_refl _) (Nat.le_refl _) ⟨rfl, rfl⟩
  by_cases c24 : a0 = 52
  · refine x_tableIn 178 179 d_Tokens_signOf_1 (by rw [c24]; decide) (by rw [c24]; decide) (by rw [c24]; rfl) (by decide) ?_
    refine x_bipush 36 d_Tokens_signOf_179 (by decide) ?_
    obtain rfl := h
    exact x_ireturn rfl d_Tokens_signOf_181 (Nat.le_refl _) (Nat.le_refl _) ⟨rfl, rfl⟩
  by_cases c25 : a0 = 53
  · refine x_tableIn 178 179 d_Tokens_signOf_1 (by rw [c25]; decide) (by rw [c25]; decide) (by rw [c25]; rfl) (by decide) ?_
    refine x_bipush 36 d_Tokens_signOf_179 (by decide) ?_
    obtain rfl := h
    exact x_ireturn rfl d_Tokens_signOf_181 (Nat.le_refl _) (Nat.le_refl _) ⟨rfl, rfl⟩
  by_cases c26 : a0 = 54
  · refine x_tableIn 178 179 d_Tokens_signOf_1 (by rw [c26]; decide) (by rw [c26]; decide) (by rw [c26]; rfl) (by decide) ?_
    refine x_bipush 36 d_Tokens_signOf_179 (by decide) ?_
    obtain rfl := h
    exact x_ireturn rfl d_Tokens_signOf_181 (Nat.le_refl _) (Nat.le_refl _) ⟨rfl, rfl⟩
  by_cases c27 : a0 = 55
  · refine x_tableIn 178 179 d_Tokens_signOf_1 (by rw [c27]; decide) (by rw [c27]; decide) (by rw [c27]; rfl) (by decide) ?_
    refine x_bipush 36 d_Tokens_signOf_179 (by decide) ?_
    obtain rfl := h
    exact x_ireturn rfl d_Tokens_signOf_181 (Nat.le_refl _) (Nat.le_refl _) ⟨rfl, rfl⟩
  by_cases c28 : a0 = 56
  · refine x_tableIn 178 179 d_Tokens_signOf_1 (by rw [c28]; decide) (by rw [c28]; decide) (by rw [c28]; rfl) (by decide) ?_
    refine x_bipush 36 d_Tokens_signOf_179 (by decide) ?_
    obtain rfl := h
    exact x_ireturn rfl d_Tokens_signOf_181 (Nat.le_refl _) (Nat.le_refl _) ⟨rfl, rfl⟩
  by_cases c29 : a0 = 57
  · refine x_tableIn 178 179 d_Tokens_signOf_1 (by rw [c29]; decide) (by rw [c29]; decide) (by rw [c29]; rfl) (by decide) ?_
    refine x_bipush 36 d_Tokens_signOf_179 (by decide) ?_
    obtain rfl := h
    exact x_ireturn rfl d_Tokens_signOf_181 (Nat.le_refl _) (Nat.le_refl _) ⟨rfl, rfl⟩
  by_cases c30 : a0 = 58
  · refine x_tableIn 178 179 d_Tokens_signOf_1 (by rw [c30]; decide) (by rw [c30]; decide) (by rw [c30]; rfl) (by decide) ?_
    refine x_bipush 36 d_Tokens_signOf_179 (by decide) ?_
    obtain rfl := h
    exact x_ireturn rfl d_Tokens_signOf_181 (Nat.le_refl _) (Nat.le_refl _) ⟨rfl, rfl⟩
  refine x_tableOut 179 d_Tokens_signOf_1 (by have n0 := lv_neT c1 (a := 35) rfl; have n1 := lv_neT c2 (a := 40) rfl; have n2 := lv_neT c3 (a := 41) rfl; have n3 := lv_neT c4 (a := 42) rfl; have n4 := lv_neT c5 (a := 43) rfl; have n5 := lv_neT c6 (a := 45) rfl; have n6 := lv_neT c7 (a := 47) rfl; have n7 := lv_neT c8 (a := 59) rfl; have n8 := lv_neT c9 (a := 60) rfl; have n9 := lv_neT c11 (a := 61) rfl; have n10 := lv_neT c12 (a := 62) rfl; have n11 := lv_neT c14 (a := 36) rfl; have n12 := lv_neT c15 (a := 37) rfl; have n13 := lv_neT c16 (a := 38) rfl; have n14 := lv_neT c17 (a := 39) rfl; have n15 := lv_neT c18 (a := 44) rfl; have n16 := lv_neT c19 (a := 46) rfl; have n17 := lv_neT c20 (a := 48) rfl; have n18 := lv_neT c21 (a := 49) rfl; have n19 := lv_neT c22 (a := 50) rfl; have n20 := lv_neT c23 (a := 51) rfl; have n21 := lv_neT c24 (a := 52) rfl; have n22 := lv_neT c25 (a := 53) rfl; have n23 := lv_neT c26 (a := 54) rfl; have n24 := lv_neT c27 (a := 55) rfl; have n25 := lv_neT c28 (a := 56) rfl; have n26 := lv_neT c29 (a := 57) rfl; have n27 := lv_neT c30 (a := 58) rfl; omega) (by decide) ?_
  refine x_bipush 36 d_Tokens_signOf_179 (by decide) ?_
  obtain rfl := h
  exact x_ireturn rfl d_Tokens_signOf_181 (Nat.le_refl _) (Nat.le_refl _) ⟨rfl, rfl⟩
-- Tokens_wordOf
def b_Tokens_wordOf_11 (V : xV) (k11 : Int32 → Int32 → Int32 → Int32 → Int32 → Int32 → Option (Int32)) (v1 : Int32) (v2 : Int32) (v3 : Int32) (v4 : Int32) (v5 : Int32) (v6 : Int32) : Option (Int32) := (if 116 ≤ v6 then some 36 else (if xI v6 116 = true then (if (xWordsB.getD v6.toNatClampNeg 0) = 32 then (if v5 = 0 then k11 v1 v2 (v3 + 1) v1 1 (v6 + 1) else (if ¬ v4 = v2 then k11 v1 v2 (v3 + 1) v1 1 (v6 + 1) else some v3)) else (if v5 = 0 then k11 v1 v2 v3 (v4 + 1) 0 (v6 + 1) else (if v2 ≤ v4 then k11 v1 v2 v3 (v4 + 1) 0 (v6 + 1) else (Option.bind (f_Tape_at v4 V) fun p8 => (if ¬ p8 = (xWordsB.getD v6.toNatClampNeg 0) then k11 v1 v2 v3 (v4 + 1) 0 (v6 + 1) else k11 v1 v2 v3 (v4 + 1) 1 (v6 + 1)))))) else none))
theorem tb_Tokens_wordOf_11 {V : xV} {L : xL} (k11 : Int32 → Int32 → Int32 → Int32 → Int32 → Int32 → Option (Int32)) (res : Int32) (hk11 : ∀ (v1 : Int32) (v2 : Int32) (v3 : Int32) (v4 : Int32) (v5 : Int32) (v6 : Int32), k11 v1 v2 v3 v4 v5 v6 = some res → X M_Tokens_wordOf (xRm (5) M_Tokens_wordOf) (xZ M_Tokens_wordOf (fun o h' => o = some (.int res) ∧ h' = (SH, V, L))) SH V L 0 0 11 [(0, .ref 17), (1, .int v1), (2, .int v2), (3, .int v3), (4, .int v4), (5, .int v5), (6, .int v6)] []) (v1 : Int32) (v2 : Int32) (v3 : Int32) (v4 : Int32) (v5 : Int32) (v6 : Int32) (h : b_Tokens_wordOf_11 V k11 v1 v2 v3 v4 v5 v6 = some res) : X M_Tokens_wordOf (xRm (5) M_Tokens_wordOf) (xZ M_Tokens_wordOf (fun o h' => o = some (.int res) ∧ h' = (SH, V, L))) SH V L 0 0 11 [(0, .ref 17), (1, .int v1), (2, .int v2), (3, .int v3), (4, .int v4), (5, .int v5), (6, .int v6)] [] := by
  unfold b_Tokens_wordOf_11 at h
  refine x_iload 6 d_Tokens_wordOf_11 rfl ?_
  refine x_ldcS rfl d_Tokens_wordOf_13 ?_
  refine x_strLen li_strLen (xfit_of (by omega) (Nat.le_of_ble_eq_true rfl)) (Nat.zero_le _) (Nat.zero_le _) (Nat.le_of_ble_eq_true rfl) d_Tokens_wordOf_15 ?_
  refine x_icmp_ge 100 d_Tokens_wordOf_18 (by decide) (fun c1 => ?_) (fun c1 => ?_)
  · replace h := xpos c1 h
    refine x_bipush 36 d_Tokens_wordOf_100 (by decide) ?_
    obtain rfl := Option.some.inj h
    exact x_ireturn rfl d_Tokens_wordOf_102 (Nat.le_refl _) (Nat.le_refl _) ⟨rfl, rfl⟩
  · replace h := xneg c1 h
    refine x_ldcS rfl d_Tokens_wordOf_21 ?_
    refine x_iload 6 d_Tokens_wordOf_23 rfl ?_
    obtain ⟨c2, h⟩ := xguard h
    refine x_charAt li_charAt (xfit_of (by omega) (Nat.le_of_ble_eq_true rfl)) (Nat.zero_le _) (Nat.zero_le _) (Nat.le_of_ble_eq_true rfl) c2 d_Tokens_wordOf_25 ?_
    refine x_istore [(7, .int (xWordsB.getD v6.toNatClampNeg 0)), (0, .ref 17), (1, .int v1), (2, .int v2), (3, .int v3), (4, .int v4), (5, .int v5), (6, .int v6)] d_Tokens_wordOf_28 (Nat.le_of_ble_eq_true rfl) rfl ?_
    refine x_iload 0 d_Tokens_wordOf_30 rfl ?_
    refine x_bipush 32 d_Tokens_wordOf_32 (by decide) ?_
    refine x_icmp_eq 72 d_Tokens_wordOf_34 (by decide) (fun c3 => ?_) (fun c3 => ?_)
    · replace h := xpos c3 h
      refine x_iload 6 d_Tokens_wordOf_72 rfl ?_
      refine x_if_eq 85 d_Tokens_wordOf_74 (by decide) (fun c4 => ?_) (fun c4 => ?_)
      · replace h := xpos c4 h
        refine x_iinc 4 1 [(3, .int (v3 + 1)), (7, .int (xWordsB.getD v6.toNatClampNeg 0)), (0, .ref 17), (1, .int v1), (2, .int v2), (4, .int v4), (5, .int v5), (6, .int v6)] d_Tokens_wordOf_85 rfl (by decide) (Nat.le_of_ble_eq_true rfl) rfl ?_
        refine x_iload_n 3 d_Tokens_wordOf_88 rfl rfl ?_
        refine x_istore [(4, .int v1), (3, .int (v3 + 1)), (7, .int (xWordsB.getD v6.toNatClampNeg 0)), (0, .ref 17), (1, .int v1), (2, .int v2), (5, .int v5), (6, .int v6)] d_Tokens_wordOf_89 (Nat.le_of_ble_eq_true rfl) rfl ?_
        refine x_iconst 1 d_Tokens_wordOf_91 (by decide) ?_
        refine x_istore [(5, .int 1), (4, .int v1), (3, .int (v3 + 1)), (7, .int (xWordsB.getD v6.toNatClampNeg 0)), (0, .ref 17), (1, .int v1), (2, .int v2), (6, .int v6)] d_Tokens_wordOf_92 (Nat.le_of_ble_eq_true rfl) rfl ?_
        refine x_iinc 7 1 [(6, .int (v6 + 1)), (5, .int 1), (4, .int v1), (3, .int (v3 + 1)), (7, .int (xWordsB.getD v6.toNatClampNeg 0)), (0, .ref 17), (1, .int v1), (2, .int v2)] d_Tokens_wordOf_94 rfl (by decide) (Nat.le_of_ble_eq_true rfl) rfl ?_
        refine x_goto 11 d_Tokens_wordOf_97 (by decide) ?_
        refine x_pick [5, 6, 7, 3, 2, 1, 0] rfl ?_
        exact hk11 v1 v2 (v3 + 1) v1 1 (v6 + 1) h
      · replace h := xneg c4 h
        refine x_iload 5 d_Tokens_wordOf_77 rfl ?_
        refine x_iload_n 3 d_Tokens_wordOf_79 rfl rfl ?_
        refine x_icmp_ne 85 d_Tokens_wordOf_80 (by decide) (fun c5 => ?_) (fun c5 => ?_)
        · replace h := xpos c5 h
          refine x_iinc 4 1 [(3, .int (v3 + 1)), (7, .int (xWordsB.getD v6.toNatClampNeg 0)), (0, .ref 17), (1, .int v1), (2, .int v2), (4, .int v4), (5, .int v5), (6, .int v6)] d_Tokens_wordOf_85 rfl (by decide) (Nat.le_of_ble_eq_true rfl) rfl ?_
          refine x_iload_n 3 d_Tokens_wordOf_88 rfl rfl ?_
          refine x_istore [(4, .int v1), (3, .int (v3 + 1)), (7, .int (xWordsB.getD v6.toNatClampNeg 0)), (0, .ref 17), (1, .int v1), (2, .int v2), (5, .int v5), (6, .int v6)] d_Tokens_wordOf_89 (Nat.le_of_ble_eq_true rfl) rfl ?_
          refine x_iconst 1 d_Tokens_wordOf_91 (by decide) ?_
          refine x_istore [(5, .int 1), (4, .int v1), (3, .int (v3 + 1)), (7, .int (xWordsB.getD v6.toNatClampNeg 0)), (0, .ref 17), (1, .int v1), (2, .int v2), (6, .int v6)] d_Tokens_wordOf_92 (Nat.le_of_ble_eq_true rfl) rfl ?_
          refine x_iinc 7 1 [(6, .int (v6 + 1)), (5, .int 1), (4, .int v1), (3, .int (v3 + 1)), (7, .int (xWordsB.getD v6.toNatClampNeg 0)), (0, .ref 17), (1, .int v1), (2, .int v2)] d_Tokens_wordOf_94 rfl (by decide) (Nat.le_of_ble_eq_true rfl) rfl ?_
          refine x_goto 11 d_Tokens_wordOf_97 (by decide) ?_
          refine x_pick [5, 6, 7, 3, 2, 1, 0] rfl ?_
          exact hk11 v1 v2 (v3 + 1) v1 1 (v6 + 1) h
        · replace h := xneg c5 h
          refine x_iload_n 4 d_Tokens_wordOf_83 rfl rfl ?_
          obtain rfl := Option.some.inj h
          exact x_ireturn rfl d_Tokens_wordOf_84 (Nat.le_refl _) (Nat.le_refl _) ⟨rfl, rfl⟩
    · replace h := xneg c3 h
      refine x_iload 6 d_Tokens_wordOf_37 rfl ?_
      refine x_if_eq 63 d_Tokens_wordOf_39 (by decide) (fun c6 => ?_) (fun c6 => ?_)
      · replace h := xpos c6 h
        refine x_iconst 0 d_Tokens_wordOf_63 (by decide) ?_
        refine x_istore [(5, .int 0), (7, .int (xWordsB.getD v6.toNatClampNeg 0)), (0, .ref 17), (1, .int v1), (2, .int v2), (3, .int v3), (4, .int v4), (6, .int v6)] d_Tokens_wordOf_64 (Nat.le_of_ble_eq_true rfl) rfl ?_
        refine x_iinc 6 1 [(4, .int (v4 + 1)), (5, .int 0), (7, .int (xWordsB.getD v6.toNatClampNeg 0)), (0, .ref 17), (1, .int v1), (2, .int v2), (3, .int v3), (6, .int v6)] d_Tokens_wordOf_66 rfl (by decide) (Nat.le_of_ble_eq_true rfl) rfl ?_
        refine x_goto 94 d_Tokens_wordOf_69 (by decide) ?_
        refine x_iinc 7 1 [(6, .int (v6 + 1)), (4, .int (v4 + 1)), (5, .int 0), (7, .int (xWordsB.getD v6.toNatClampNeg 0)), (0, .ref 17), (1, .int v1), (2, .int v2), (3, .int v3)] d_Tokens_wordOf_94 rfl (by decide) (Nat.le_of_ble_eq_true rfl) rfl ?_
        refine x_goto 11 d_Tokens_wordOf_97 (by decide) ?_
        refine x_pick [4, 5, 6, 7, 1, 2, 0] rfl ?_
        exact hk11 v1 v2 v3 (v4 + 1) 0 (v6 + 1) h
      · replace h := xneg c6 h
        refine x_iload 5 d_Tokens_wordOf_42 rfl ?_
        refine x_iload_n 3 d_Tokens_wordOf_44 rfl rfl ?_
        refine x_icmp_ge 63 d_Tokens_wordOf_45 (by decide) (fun c7 => ?_) (fun c7 => ?_)
        · replace h := xpos c7 h
          refine x_iconst 0 d_Tokens_wordOf_63 (by decide) ?_
          refine x_istore [(5, .int 0), (7, .int (xWordsB.getD v6.toNatClampNeg 0)), (0, .ref 17), (1, .int v1), (2, .int v2), (3, .int v3), (4, .int v4), (6, .int v6)] d_Tokens_wordOf_64 (Nat.le_of_ble_eq_true rfl) rfl ?_
          refine x_iinc 6 1 [(4, .int (v4 + 1)), (5, .int 0), (7, .int (xWordsB.getD v6.toNatClampNeg 0)), (0, .ref 17), (1, .int v1), (2, .int v2), (3, .int v3), (6, .int v6)] d_Tokens_wordOf_66 rfl (by decide) (Nat.le_of_ble_eq_true rfl) rfl ?_
          refine x_goto 94 d_Tokens_wordOf_69 (by decide) ?_
          refine x_iinc 7 1 [(6, .int (v6 + 1)), (4, .int (v4 + 1)), (5, .int 0), (7, .int (xWordsB.getD v6.toNatClampNeg 0)), (0, .ref 17), (1, .int v1), (2, .int v2), (3, .int v3)] d_Tokens_wordOf_94 rfl (by decide) (Nat.le_of_ble_eq_true rfl) rfl ?_
          refine x_goto 11 d_Tokens_wordOf_97 (by decide) ?_
          refine x_pick [4, 5, 6, 7, 1, 2, 0] rfl ?_
          exact hk11 v1 v2 v3 (v4 + 1) 0 (v6 + 1) h
        · replace h := xneg c7 h
          refine x_aload_n 1 d_Tokens_wordOf_48 rfl rfl ?_
          refine x_iload 5 d_Tokens_wordOf_49 rfl ?_
          obtain ⟨p8, e9, h⟩ := xbind h
          refine x_callV0 e_Tokens_28 sh_17 rfl (t_Tape_at v4 V L _ e9) rfl rfl rfl (Nat.le_of_ble_eq_true rfl) (xfit_of (by omega) (Nat.le_of_ble_eq_true rfl)) (Nat.zero_le _) (Nat.zero_le _) d_Tokens_wordOf_51 ?_
          refine x_iload 0 d_Tokens_wordOf_54 rfl ?_
          refine x_icmp_ne 63 d_Tokens_wordOf_56 (by decide) (fun c10 => ?_) (fun c10 => ?_)
          · replace h := xpos c10 h
            refine x_iconst 0 d_Tokens_wordOf_63 (by decide) ?_
            refine x_istore [(5, .int 0), (7, .int (xWordsB.getD v6.toNatClampNeg 0)), (0, .ref 17), (1, .int v1), (2, .int v2), (3, .int v3), (4, .int v4), (6, .int v6)] d_Tokens_wordOf_64 (Nat.le_of_ble_eq_true rfl) rfl ?_
            refine x_iinc 6 1 [(4, .int (v4 + 1)), (5, .int 0), (7, .int (xWordsB.getD v6.toNatClampNeg 0)), (0, .ref 17), (1, .int v1), (2, .int v2), (3, .int v3), (6, .int v6)] d_Tokens_wordOf_66 rfl (by decide) (Nat.le_of_ble_eq_true rfl) rfl ?_
            refine x_goto 94 d_Tokens_wordOf_69 (by decide) ?_
            refine x_iinc 7 1 [(6, .int (v6 + 1)), (4, .int (v4 + 1)), (5, .int 0), (7, .int (xWordsB.getD v6.toNatClampNeg 0)), (0, .ref 17), (1, .int v1), (2, .int v2), (3, .int v3)] d_Tokens_wordOf_94 rfl (by decide) (Nat.le_of_ble_eq_true rfl) rfl ?_
            refine x_goto 11 d_Tokens_wordOf_97 (by decide) ?_
            refine x_pick [4, 5, 6, 7, 1, 2, 0] rfl ?_
            exact hk11 v1 v2 v3 (v4 + 1) 0 (v6 + 1) h
          · replace h := xneg c10 h
            refine x_iconst 1 d_Tokens_wordOf_59 (by decide) ?_
            refine x_goto 64 d_Tokens_wordOf_60 (by decide) ?_
            refine x_istore [(5, .int 1), (7, .int (xWordsB.getD v6.toNatClampNeg 0)), (0, .ref 17), (1, .int v1), (2, .int v2), (3, .int v3), (4, .int v4), (6, .int v6)] d_Tokens_wordOf_64 (Nat.le_of_ble_eq_true rfl) rfl ?_
            refine x_iinc 6 1 [(4, .int (v4 + 1)), (5, .int 1), (7, .int (xWordsB.getD v6.toNatClampNeg 0)), (0, .ref 17), (1, .int v1), (2, .int v2), (3, .int v3), (6, .int v6)] d_Tokens_wordOf_66 rfl (by decide) (Nat.le_of_ble_eq_true rfl) rfl ?_
            refine x_goto 94 d_Tokens_wordOf_69 (by decide) ?_
            refine x_iinc 7 1 [(6, .int (v6 + 1)), (4, .int (v4 + 1)), (5, .int 1), (7, .int (xWordsB.getD v6.toNatClampNeg 0)), (0, .ref 17), (1, .int v1), (2, .int v2), (3, .int v3)] d_Tokens_wordOf_94 rfl (by decide) (Nat.le_of_ble_eq_true rfl) rfl ?_
            refine x_goto 11 d_Tokens_wordOf_97 (by decide) ?_
            refine x_pick [4, 5, 6, 7, 1, 2, 0] rfl ?_
            exact hk11 v1 v2 v3 (v4 + 1) 1 (v6 + 1) h
def g_Tokens_wordOf_11 (V : xV) : Nat → Int32 → Int32 → Int32 → Int32 → Int32 → Int32 → Option (Int32)
  | 0, _, _, _, _, _, _ => none
  | n + 1, v1, v2, v3, v4, v5, v6 => b_Tokens_wordOf_11 V (g_Tokens_wordOf_11 V n) v1 v2 v3 v4 v5 v6
theorem tg_Tokens_wordOf_11 {V : xV} {L : xL} (res : Int32)  : ∀ (n : Nat) (v1 : Int32) (v2 : Int32) (v3 : Int32) (v4 : Int32) (v5 : Int32) (v6 : Int32), g_Tokens_wordOf_11 V n v1 v2 v3 v4 v5 v6 = some res → X M_Tokens_wordOf (xRm (5) M_Tokens_wordOf) (xZ M_Tokens_wordOf (fun o h' => o = some (.int res) ∧ h' = (SH, V, L))) SH V L 0 0 11 [(0, .ref 17), (1, .int v1), (2, .int v2), (3, .int v3), (4, .int v4), (5, .int v5), (6, .int v6)] []
  | 0, _, _, _, _, _, _, h => by cases h
  | n + 1, v1, v2, v3, v4, v5, v6, h => tb_Tokens_wordOf_11 (V := V) (L := L) (g_Tokens_wordOf_11 V n) res (tg_Tokens_wordOf_11 (V := V) (L := L) res n) v1 v2 v3 v4 v5 v6 h
def f_Tokens_wordOf (a1 : Int32) (a2 : Int32) (V : xV) : Option (Int32) := g_Tokens_wordOf_11 V 2000 a1 a2 0 a1 1 0
theorem t_Tokens_wordOf (a1 : Int32) (a2 : Int32) (V : xV) (L : xL) (res : Int32) (h : f_Tokens_wordOf a1 a2 V = some res) : xRuns (5) M_Tokens_wordOf [.ref 17, .int a1, .int a2] (SH, V, L) (fun o h' => o = some (.int res) ∧ h' = (SH, V, L)) := by
  refine xRuns_of (by decide) (Nat.le_of_ble_eq_true rfl) ?_
  unfold f_Tokens_wordOf at h
  show X M_Tokens_wordOf (xRm (5) M_Tokens_wordOf) (xZ M_Tokens_wordOf (fun o h' => o = some (.int res) ∧ h' = (SH, V, L))) SH V L 0 0 0 [(0, .ref 17), (1, .int a1), (2, .int a2)] []
  refine x_iconst 0 d_Tokens_wordOf_0 (by decide) ?_
  refine x_istore_n [(3, .int 0), (0, .ref 17), (1, .int a1), (2, .int a2)] d_Tokens_wordOf_1 rfl (Nat.le_of_ble_eq_true rfl) rfl ?_
  refine x_iload_n 2 d_Tokens_wordOf_2 rfl rfl ?_
  refine x_istore [(4, .int a1), (3, .int 0), (0, .ref 17), (1, .int a1), (2, .int a2)] d_Tokens_wordOf_3 (Nat.le_of_ble_eq_true rfl) rfl ?_
  refine x_iconst 1 d_Tokens_wordOf_5 (by decide) ?_
  refine x_istore [(5, .int 1), (4, .int a1), (3, .int 0), (0, .ref 17), (1, .int a1), (2, .int a2)] d_Tokens_wordOf_6 (Nat.le_of_ble_eq_true rfl) rfl ?_
  refine x_iconst 0 d_Tokens_wordOf_8 (by decide) ?_
  refine x_istore [(6, .int 0), (5, .int 1), (4, .int a1), (3, .int 0), (0, .ref 17), (1, .int a1), (2, .int a2)] d_Tokens_wordOf_9 (Nat.le_of_ble_eq_true rfl) rfl ?_
  refine x_pick [4, 5, 6, 3, 2, 1, 0] rfl ?_
  exact tg_Tokens_wordOf_11 (V := V) (L := L) res _ a1 a2 0 a1 1 0 h
-- Tokens_kindOf
def f_Tokens_kindOf (a1 : Int32) (a2 : Int32) (V : xV) : Option (Int32) := (Option.bind (f_Tape_at a1 V) fun p1 => (if (f_Tokens_isLetter p1) = 0 then (if (f_Tokens_isDigit p1) = 0 then (if (a2 - a1) ≤ 1 then some (f_Tokens_signOf p1 0) else some (f_Tokens_signOf p1 1)) else some 35) else (Option.bind (f_Tokens_wordOf a1 a2 V) fun p10 => some p10)))
theorem t_Tokens_kindOf (a1 : Int32) (a2 : Int32) (V : xV) (L : xL) (res : Int32) (h : f_Tokens_kindOf a1 a2 V = some res) : xRuns (6) M_Tokens_kindOf [.ref 17, .int a1, .int a2] (SH, V, L) (fun o h' => o = some (.int res) ∧ h' = (SH, V, L)) := by
  refine xRuns_of (by decide) (Nat.le_of_ble_eq_true rfl) ?_
  unfold f_Tokens_kindOf at h
  show X M_Tokens_kindOf (xRm (6) M_Tokens_kindOf) (xZ M_Tokens_kindOf (fun o h' => o = some (.int res) ∧ h' = (SH, V, L))) SH V L 0 0 0 [(0, .ref 17), (1, .int a1), (2, .int a2)] []
  refine x_aload_n 0 d_Tokens_kindOf_0 rfl rfl ?_
  refine x_iload_n 1 d_Tokens_kindOf_1 rfl rfl ?_
  obtain ⟨p1, e2, h⟩ := xbind h
  refine x_callV0 e_Tokens_28 sh_17 rfl (t_Tape_at a1 V L _ e2) rfl rfl rfl (Nat.le_of_ble_eq_true rfl) (xfit_of (by omega) (Nat.le_of_ble_eq_true rfl)) (Nat.zero_le _) (Nat.zero_le _) d_Tokens_kindOf_2 ?_
  refine x_istore_n [(3, .int p1), (0, .ref 17), (1, .int a1), (2, .int a2)] d_Tokens_kindOf_5 rfl (Nat.le_of_ble_eq_true rfl) rfl ?_
  refine x_iload_n 0 d_Tokens_kindOf_6 rfl rfl ?_
  refine x_callS0 e_Tokens_55 (t_Tokens_isLetter p1 V L _ rfl) rfl rfl rfl (Nat.le_of_ble_eq_true rfl) (xfit_of (by omega) (Nat.le_of_ble_eq_true rfl)) (Nat.zero_le _) (Nat.zero_le _) d_Tokens_kindOf_7 ?_
  refine x_if_eq 20 d_Tokens_kindOf_10 (by decide) (fun c4 => ?_) (fun c4 => ?_)
  · replace h := xpos c4 h
    refine x_iload_n 0 d_Tokens_kindOf_20 rfl rfl ?_
    refine x_callS0 e_Tokens_36 (t_Tokens_isDigit p1 V L _ rfl) rfl rfl rfl (Nat.le_of_ble_eq_true rfl) (xfit_of (by omega) (Nat.le_of_ble_eq_true rfl)) (Nat.zero_le _) (Nat.zero_le _) d_Tokens_kindOf_21 ?_
    refine x_if_eq 32 d_Tokens_kindOf_24 (by decide) (fun c6 => ?_) (fun c6 => ?_)
    · replace h := xpos c6 h
      refine x_iload_n 0 d_Tokens_kindOf_32 rfl rfl ?_
      refine x_iload_n 3 d_Tokens_kindOf_33 rfl rfl ?_
      refine x_iload_n 2 d_Tokens_kindOf_34 rfl rfl ?_
      refine x_isub d_Tokens_kindOf_35 ?_
      refine x_iconst 1 d_Tokens_kindOf_36 (by decide) ?_
      refine x_icmp_le 44 d_Tokens_kindOf_37 (by decide) (fun c7 => ?_) (fun c7 => ?_)
      · replace h := xpos c7 h
        refine x_iconst 0 d_Tokens_kindOf_44 (by decide) ?_
        refine x_callS0 e_Tokens_61 (t_Tokens_signOf p1 0 V L _ rfl) rfl rfl rfl (Nat.le_of_ble_eq_true rfl) (xfit_of (by omega) (Nat.le_of_ble_eq_true rfl)) (Nat.zero_le _) (Nat.zero_le _) d_Tokens_kindOf_45 ?_
        obtain rfl := Option.some.inj h
        exact x_ireturn rfl d_Tokens_kindOf_48 (Nat.le_refl _) (Nat.le_refl _) ⟨rfl, rfl⟩
      · replace h := xneg c7 h
        refine x_iconst 1 d_Tokens_kindOf_40 (by decide) ?_
        refine x_goto 45 d_Tokens_kindOf_41 (by decide) ?_
        refine x_callS0 e_Tokens_61 (t_Tokens_signOf p1 1 V L _ rfl) rfl rfl rfl (Nat.le_of_ble_eq_true rfl) (xfit_of (by omega) (Nat.le_of_ble_eq_true rfl)) (Nat.zero_le _) (Nat.zero_le _) d_Tokens_kindOf_45 ?_
        obtain rfl := Option.some.inj h
        exact x_ireturn rfl d_Tokens_kindOf_48 (Nat.le_refl _) (Nat.le_refl _) ⟨rfl, rfl⟩
    · replace h := xneg c6 h
      refine x_bipush 35 d_Tokens_kindOf_27 (by decide) ?_
      refine x_goto 48 d_Tokens_kindOf_29 (by decide) ?_
      obtain rfl := Option.some.inj h
      exact x_ireturn rfl d_Tokens_kindOf_48 (Nat.le_refl _) (Nat.le_refl _) ⟨rfl, rfl⟩
  · replace h := xneg c4 h
    refine x_aload_n 1 d_Tokens_kindOf_13 rfl rfl ?_
    refine x_iload_n 2 d_Tokens_kindOf_14 rfl rfl ?_
    refine x_iload_n 3 d_Tokens_kindOf_15 rfl rfl ?_
    obtain ⟨p10, e11, h⟩ := xbind h
    refine x_callS0 e_Tokens_58 (t_Tokens_wordOf a1 a2 V L _ e11) rfl rfl rfl (Nat.le_of_ble_eq_true rfl) (xfit_of (by omega) (Nat.le_of_ble_eq_true rfl)) (Nat.zero_le _) (Nat.zero_le _) d_Tokens_kindOf_16 ?_
    obtain rfl := Option.some.inj h
    exact x_ireturn rfl d_Tokens_kindOf_19 (Nat.le_refl _) (Nat.le_refl _) ⟨rfl, rfl⟩
-- Tokens_scan
def b_Tokens_scan_67 (k9 : Int32 → Int32 → xV → Option (xV)) (v2 : Int32) (v3 : Int32) (s0 : Int32) (V : xV) : Option (xV) := (Option.bind (f_Tokens_kindOf v3 v2 V) fun p15 => (Option.bind (f_Tokens_put p15 v3 s0 V) fun p17 => k9 v2 (v3 + 1) p17))
theorem tb_Tokens_scan_67 {L : xL} (k9 : Int32 → Int32 → xV → Option (xV)) (res : xV) (hk9 : ∀ (v2 : Int32) (v3 : Int32) (V : xV), k9 v2 v3 V = some res → X M_Tokens_scan (xRm (7) M_Tokens_scan) (xZ M_Tokens_scan (fun o h' => o = none ∧ h' = (SH, res, L))) SH V L 0 0 9 [(0, .ref 47), (1, .ref 17), (2, .int v2), (3, .int v3)] []) (v2 : Int32) (v3 : Int32) (s0 : Int32) (V : xV) (h : b_Tokens_scan_67 k9 v2 v3 s0 V = some res) : X M_Tokens_scan (xRm (7) M_Tokens_scan) (xZ M_Tokens_scan (fun o h' => o = none ∧ h' = (SH, res, L))) SH V L 0 0 67 [(0, .ref 47), (1, .ref 17), (2, .int v2), (3, .int v3)] [.int s0] := by
  unfold b_Tokens_scan_67 at h
  refine x_istore [(5, .int s0), (0, .ref 47), (1, .ref 17), (2, .int v2), (3, .int v3)] d_Tokens_scan_67 (Nat.le_of_ble_eq_true rfl) rfl ?_
  refine x_aload_n 1 d_Tokens_scan_69 rfl rfl ?_
  refine x_aload_n 2 d_Tokens_scan_70 rfl rfl ?_
  refine x_iload_n 4 d_Tokens_scan_71 rfl rfl ?_
  refine x_iload_n 3 d_Tokens_scan_72 rfl rfl ?_
  obtain ⟨p15, e16, h⟩ := xbind h
  refine x_callS0 e_Tokens_44 (t_Tokens_kindOf v3 v2 V L _ e16) rfl rfl rfl (Nat.le_of_ble_eq_true rfl) (xfit_of (by omega) (Nat.le_of_ble_eq_true rfl)) (Nat.zero_le _) (Nat.zero_le _) d_Tokens_scan_73 ?_
  refine x_iload_n 4 d_Tokens_scan_76 rfl rfl ?_
  refine x_iload 0 d_Tokens_scan_77 rfl ?_
  obtain ⟨p17, e18, h⟩ := xbind h
  refine x_callV0v e_Tokens_47 sh_47 rfl (t_Tokens_put p15 v3 s0 V L _ e18) rfl rfl rfl (Nat.le_of_ble_eq_true rfl) (xfit_of (by omega) (Nat.le_of_ble_eq_true rfl)) (Nat.zero_le _) (Nat.zero_le _) d_Tokens_scan_79 ?_
  refine x_iinc 4 1 [(3, .int (v3 + 1)), (5, .int s0), (0, .ref 47), (1, .ref 17), (2, .int v2)] d_Tokens_scan_82 rfl (by decide) (Nat.le_of_ble_eq_true rfl) rfl ?_
  refine x_goto 9 d_Tokens_scan_85 (by decide) ?_
  refine x_pick [2, 3, 4, 0] rfl ?_
  exact hk9 v2 (v3 + 1) p17 h
def b_Tokens_scan_9 (k9 : Int32 → Int32 → xV → Option (xV)) (v2 : Int32) (v3 : Int32) (V : xV) : Option (xV) := (if (V 17 1) ≤ v3 then (Option.bind (f_Tokens_put 37 (V 17 1) 0 V) fun p2 => some p2) else (Option.bind (f_Tape_at v3 V) fun p4 => (if v3 < v2 then k9 v2 (v3 + 1) V else (if p4 = 32 then k9 v2 (v3 + 1) V else (if p4 = 10 then k9 v2 (v3 + 1) V else (Option.bind (f_Tokens_stopOf v3 V) fun p9 => (if (f_Tokens_isDigit p4) = 0 then b_Tokens_scan_67 k9 p9 v3 0 V else (Option.bind (f_Tokens_numberOf v3 p9 V) fun p13 => b_Tokens_scan_67 k9 p9 v3 p13 V))))))))
theorem tb_Tokens_scan_9 {L : xL} (k9 : Int32 → Int32 → xV → Option (xV)) (res : xV) (hk9 : ∀ (v2 : Int32) (v3 : Int32) (V : xV), k9 v2 v3 V = some res → X M_Tokens_scan (xRm (7) M_Tokens_scan) (xZ M_Tokens_scan (fun o h' => o = none ∧ h' = (SH, res, L))) SH V L 0 0 9 [(0, .ref 47), (1, .ref 17), (2, .int v2), (3, .int v3)] []) (v2 : Int32) (v3 : Int32) (V : xV) (h : b_Tokens_scan_9 k9 v2 v3 V = some res) : X M_Tokens_scan (xRm (7) M_Tokens_scan) (xZ M_Tokens_scan (fun o h' => o = none ∧ h' = (SH, res, L))) SH V L 0 0 9 [(0, .ref 47), (1, .ref 17), (2, .int v2), (3, .int v3)] [] := by
  unfold b_Tokens_scan_9 at h
  refine x_iload_n 3 d_Tokens_scan_9 rfl rfl ?_
  refine x_aload_n 1 d_Tokens_scan_10 rfl rfl ?_
  refine x_getI f_Tokens_25 sh_17 rfl d_Tokens_scan_11 ?_
  refine x_icmp_ge 88 d_Tokens_scan_14 (by decide) (fun c1 => ?_) (fun c1 => ?_)
  · replace h := xpos c1 h
    refine x_aload_n 0 d_Tokens_scan_88 rfl rfl ?_
    refine x_bipush 37 d_Tokens_scan_89 (by decide) ?_
    refine x_aload_n 1 d_Tokens_scan_91 rfl rfl ?_
    refine x_getI f_Tokens_25 sh_17 rfl d_Tokens_scan_92 ?_
    refine x_iconst 0 d_Tokens_scan_95 (by decide) ?_
    obtain ⟨p2, e3, h⟩ := xbind h
    refine x_callV0v e_Tokens_47 sh_47 rfl (t_Tokens_put 37 (V 17 1) 0 V L _ e3) rfl rfl rfl (Nat.le_of_ble_eq_true rfl) (xfit_of (by omega) (Nat.le_of_ble_eq_true rfl)) (Nat.zero_le _) (Nat.zero_le _) d_Tokens_scan_96 ?_
    obtain rfl := Option.some.inj h
    exact x_return rfl d_Tokens_scan_99 (Nat.le_refl _) (Nat.le_refl _) ⟨rfl, rfl⟩
  · replace h := xneg c1 h
    refine x_aload_n 1 d_Tokens_scan_17 rfl rfl ?_
    refine x_iload_n 3 d_Tokens_scan_18 rfl rfl ?_
    obtain ⟨p4, e5, h⟩ := xbind h
    refine x_callV0 e_Tokens_28 sh_17 rfl (t_Tape_at v3 V L _ e5) rfl rfl rfl (Nat.le_of_ble_eq_true rfl) (xfit_of (by omega) (Nat.le_of_ble_eq_true rfl)) (Nat.zero_le _) (Nat.zero_le _) d_Tokens_scan_19 ?_
    refine x_istore [(4, .int p4), (0, .ref 47), (1, .ref 17), (2, .int v2), (3, .int v3)] d_Tokens_scan_22 (Nat.le_of_ble_eq_true rfl) rfl ?_
    refine x_iload_n 4 d_Tokens_scan_24 rfl rfl ?_
    refine x_iload_n 3 d_Tokens_scan_25 rfl rfl ?_
    refine x_icmp_lt 82 d_Tokens_scan_26 (by decide) (fun c6 => ?_) (fun c6 => ?_)
    · replace h := xpos c6 h
      refine x_iinc 4 1 [(3, .int (v3 + 1)), (4, .int p4), (0, .ref 47), (1, .ref 17), (2, .int v2)] d_Tokens_scan_82 rfl (by decide) (Nat.le_of_ble_eq_true rfl) rfl ?_
      refine x_goto 9 d_Tokens_scan_85 (by decide) ?_
      refine x_pick [2, 3, 4, 0] rfl ?_
      exact hk9 v2 (v3 + 1) V h
    · replace h := xneg c6 h
      refine x_iload 0 d_Tokens_scan_29 rfl ?_
      refine x_bipush 32 d_Tokens_scan_31 (by decide) ?_
      refine x_icmp_eq 82 d_Tokens_scan_33 (by decide) (fun c7 => ?_) (fun c7 => ?_)
      · replace h := xpos c7 h
        refine x_iinc 4 1 [(3, .int (v3 + 1)), (4, .int p4), (0, .ref 47), (1, .ref 17), (2, .int v2)] d_Tokens_scan_82 rfl (by decide) (Nat.le_of_ble_eq_true rfl) rfl ?_
        refine x_goto 9 d_Tokens_scan_85 (by decide) ?_
        refine x_pick [2, 3, 4, 0] rfl ?_
        exact hk9 v2 (v3 + 1) V h
      · replace h := xneg c7 h
        refine x_iload 0 d_Tokens_scan_36 rfl ?_
        refine x_bipush 10 d_Tokens_scan_38 (by decide) ?_
        refine x_icmp_eq 82 d_Tokens_scan_40 (by decide) (fun c8 => ?_) (fun c8 => ?_)
        · replace h := xpos c8 h
          refine x_iinc 4 1 [(3, .int (v3 + 1)), (4, .int p4), (0, .ref 47), (1, .ref 17), (2, .int v2)] d_Tokens_scan_82 rfl (by decide) (Nat.le_of_ble_eq_true rfl) rfl ?_
          refine x_goto 9 d_Tokens_scan_85 (by decide) ?_
          refine x_pick [2, 3, 4, 0] rfl ?_
          exact hk9 v2 (v3 + 1) V h
        · replace h := xneg c8 h
          refine x_aload_n 2 d_Tokens_scan_43 rfl rfl ?_
          refine x_iload_n 4 d_Tokens_scan_44 rfl rfl ?_
          obtain ⟨p9, e10, h⟩ := xbind h
          refine x_callS0 e_Tokens_32 (t_Tokens_stopOf v3 V L _ e10) rfl rfl rfl (Nat.le_of_ble_eq_true rfl) (xfit_of (by omega) (Nat.le_of_ble_eq_true rfl)) (Nat.zero_le _) (Nat.zero_le _) d_Tokens_scan_45 ?_
          refine x_istore_n [(2, .int p9), (4, .int p4), (0, .ref 47), (1, .ref 17), (3, .int v3)] d_Tokens_scan_48 rfl (Nat.le_of_ble_eq_true rfl) rfl ?_
          refine x_iload 1 d_Tokens_scan_49 rfl ?_
          refine x_callS0 e_Tokens_36 (t_Tokens_isDigit p4 V L _ rfl) rfl rfl rfl (Nat.le_of_ble_eq_true rfl) (xfit_of (by omega) (Nat.le_of_ble_eq_true rfl)) (Nat.zero_le _) (Nat.zero_le _) d_Tokens_scan_51 ?_
          refine x_if_eq 66 d_Tokens_scan_54 (by decide) (fun c12 => ?_) (fun c12 => ?_)
          · replace h := xpos c12 h
            refine x_iconst 0 d_Tokens_scan_66 (by decide) ?_
            refine x_pick [2, 3, 0, 4] rfl ?_
            exact tb_Tokens_scan_67 (L := L) k9 res hk9 p9 v3 0 V h
          · replace h := xneg c12 h
            refine x_aload_n 3 d_Tokens_scan_57 rfl rfl ?_
            refine x_iload_n 4 d_Tokens_scan_58 rfl rfl ?_
            refine x_iload_n 0 d_Tokens_scan_59 rfl rfl ?_
            obtain ⟨p13, e14, h⟩ := xbind h
            refine x_callS0 e_Tokens_40 (t_Tokens_numberOf v3 p9 V L _ e14) rfl rfl rfl (Nat.le_of_ble_eq_true rfl) (xfit_of (by omega) (Nat.le_of_ble_eq_true rfl)) (Nat.zero_le _) (Nat.zero_le _) d_Tokens_scan_60 ?_
            refine x_goto 67 d_Tokens_scan_63 (by decide) ?_
            refine x_pick [2, 3, 0, 4] rfl ?_
            exact tb_Tokens_scan_67 (L := L) k9 res hk9 p9 v3 p13 V h
def g_Tokens_scan_9  : Nat → Int32 → Int32 → xV → Option (xV)
  | 0, _, _, _ => none
  | n + 1, v2, v3, V => b_Tokens_scan_9 (g_Tokens_scan_9  n) v2 v3 V
theorem tg_Tokens_scan_9 {L : xL} (res : xV)  : ∀ (n : Nat) (v2 : Int32) (v3 : Int32) (V : xV), g_Tokens_scan_9  n v2 v3 V = some res → X M_Tokens_scan (xRm (7) M_Tokens_scan) (xZ M_Tokens_scan (fun o h' => o = none ∧ h' = (SH, res, L))) SH V L 0 0 9 [(0, .ref 47), (1, .ref 17), (2, .int v2), (3, .int v3)] []
  | 0, _, _, _, h => by cases h
  | n + 1, v2, v3, V, h => tb_Tokens_scan_9 (L := L) (g_Tokens_scan_9  n) res (tg_Tokens_scan_9 (L := L) res n) v2 v3 V h
def f_Tokens_scan (V : xV) : Option (xV) := g_Tokens_scan_9 2000 0 0 (x2 V 47 3 0)
theorem t_Tokens_scan  (V : xV) (L : xL) (res : xV) (h : f_Tokens_scan V = some res) : xRuns (7) M_Tokens_scan [.ref 47, .ref 17] (SH, V, L) (fun o h' => o = none ∧ h' = (SH, res, L)) := by
  refine xRuns_of (by decide) (Nat.le_of_ble_eq_true rfl) ?_
  unfold f_Tokens_scan at h
  show X M_Tokens_scan (xRm (7) M_Tokens_scan) (xZ M_Tokens_scan (fun o h' => o = none ∧ h' = (SH, res, L))) SH V L 0 0 0 [(0, .ref 47), (1, .ref 17)] []
  refine x_aload_n 0 d_Tokens_scan_0 rfl rfl ?_
  refine x_iconst 0 d_Tokens_scan_1 (by decide) ?_
  refine x_putI f_Tokens_21 sh_47 rfl rfl rfl d_Tokens_scan_2 ?_
  refine x_iconst 0 d_Tokens_scan_5 (by decide) ?_
  refine x_istore_n [(2, .int 0), (0, .ref 47), (1, .ref 17)] d_Tokens_scan_6 rfl (Nat.le_of_ble_eq_true rfl) rfl ?_
  refine x_iconst 0 d_Tokens_scan_7 (by decide) ?_
  refine x_istore_n [(3, .int 0), (2, .int 0), (0, .ref 47), (1, .ref 17)] d_Tokens_scan_8 rfl (Nat.le_of_ble_eq_true rfl) rfl ?_
  refine x_pick [2, 3, 1, 0] rfl ?_
  exact tg_Tokens_scan_9 (L := L) res _ 0 0 (x2 V 47 3 0) h
-- Reader_kind
def f_Reader_kind (V : xV) : Option (Int32) := (if (V 46 5) < 0 then some 37 else (if (V 47 3) ≤ (V 46 5) then some 37 else (if 301 ≤ (V 46 5) then some 37 else (if xI (V 46 5) 301 = true then some (V 48 (V 46 5).toNatClampNeg) else none))))
theorem t_Reader_kind  (V : xV) (L : xL) (res : Int32) (h : f_Reader_kind V = some res) : xRuns (1) M_Reader_kind [.ref 46] (SH, V, L) (fun o h' => o = some (.int res) ∧ h' = (SH, V, L)) := by
  refine xRuns_of (by decide) (Nat.le_of_ble_eq_true rfl) ?_
  unfold f_Reader_kind at h
  show X M_Reader_kind (xRm (1) M_Reader_kind) (xZ M_Reader_kind (fun o h' => o = some (.int res) ∧ h' = (SH, V, L))) SH V L 0 0 0 [(0, .ref 46)] []
  refine x_aload_n 0 d_Reader_kind_0 rfl rfl ?_
  refine x_getI f_Reader_38 sh_46 rfl d_Reader_kind_1 ?_
  refine x_if_lt 51 d_Reader_kind_4 (by decide) (fun c1 => ?_) (fun c1 => ?_)
  · replace h := xpos c1 h
    refine x_bipush 37 d_Reader_kind_51 (by decide) ?_
    obtain rfl := Option.some.inj h
    exact x_ireturn rfl d_Reader_kind_53 (Nat.le_refl _) (Nat.le_refl _) ⟨rfl, rfl⟩
  · replace h := xneg c1 h
    refine x_aload_n 0 d_Reader_kind_7 rfl rfl ?_
    refine x_getI f_Reader_38 sh_46 rfl d_Reader_kind_8 ?_
    refine x_aload_n 0 d_Reader_kind_11 rfl rfl ?_
    refine x_getP (q := 47) f_Reader_18 sh_46 rfl d_Reader_kind_12 ?_
    refine x_getI f_Reader_45 sh_47 rfl d_Reader_kind_15 ?_
    refine x_icmp_ge 51 d_Reader_kind_18 (by decide) (fun c2 => ?_) (fun c2 => ?_)
    · replace h := xpos c2 h
      refine x_bipush 37 d_Reader_kind_51 (by decide) ?_
      obtain rfl := Option.some.inj h
      exact x_ireturn rfl d_Reader_kind_53 (Nat.le_refl _) (Nat.le_refl _) ⟨rfl, rfl⟩
    · replace h := xneg c2 h
      refine x_aload_n 0 d_Reader_kind_21 rfl rfl ?_
      refine x_getI f_Reader_38 sh_46 rfl d_Reader_kind_22 ?_
      refine x_aload_n 0 d_Reader_kind_25 rfl rfl ?_
      refine x_getP (q := 47) f_Reader_18 sh_46 rfl d_Reader_kind_26 ?_
      refine x_getP (q := 48) f_Reader_56 sh_47 rfl d_Reader_kind_29 ?_
      refine x_alen 301 sh_48 (by decide) (by decide) d_Reader_kind_32 ?_
      refine x_icmp_ge 51 d_Reader_kind_33 (by decide) (fun c3 => ?_) (fun c3 => ?_)
      · replace h := xpos c3 h
        refine x_bipush 37 d_Reader_kind_51 (by decide) ?_
        obtain rfl := Option.some.inj h
        exact x_ireturn rfl d_Reader_kind_53 (Nat.le_refl _) (Nat.le_refl _) ⟨rfl, rfl⟩
      · replace h := xneg c3 h
        refine x_aload_n 0 d_Reader_kind_36 rfl rfl ?_
        refine x_getP (q := 47) f_Reader_18 sh_46 rfl d_Reader_kind_37 ?_
        refine x_getP (q := 48) f_Reader_56 sh_47 rfl d_Reader_kind_40 ?_
        refine x_aload_n 0 d_Reader_kind_43 rfl rfl ?_
        refine x_getI f_Reader_38 sh_46 rfl d_Reader_kind_44 ?_
        obtain ⟨c4, h⟩ := xguard h
        refine x_iaload sh_48 c4 d_Reader_kind_47 ?_
        refine x_goto 53 d_Reader_kind_48 (by decide) ?_
        obtain rfl := Option.some.inj h
        exact x_ireturn rfl d_Reader_kind_53 (Nat.le_refl _) (Nat.le_refl _) ⟨rfl, rfl⟩
-- Law_has
def f_Law_has (q0 : Nat) (a1 : Int32) (V : xV) : Option (Int32) := (if (f_Ww_within a1 6) = 0 then some 0 else (if xI a1 6 = true then (if xI a1 6 = true then (if (V (q0 + 3) a1.toNatClampNeg) ≤ (V (q0 + 2) a1.toNatClampNeg) then some 0 else some 1) else none) else none))
theorem t_Law_has (q0 : Nat) (a1 : Int32) (hq0 : lawB q0 = true) (V : xV) (L : xL) (res : Int32) (h : f_Law_has q0 a1 V = some res) : xRuns (2) M_Law_has [.ref q0, .int a1] (SH, V, L) (fun o h' => o = some (.int res) ∧ h' = (SH, V, L)) := by
  refine xRuns_of (by decide) (Nat.le_of_ble_eq_true rfl) ?_
  unfold f_Law_has at h
  show X M_Law_has (xRm (2) M_Law_has) (xZ M_Law_has (fun o h' => o = some (.int res) ∧ h' = (SH, V, L))) SH V L 0 0 0 [(0, .ref q0), (1, .int a1)] []
  refine x_iload_n 1 d_Law_has_0 rfl rfl ?_
  refine x_bipush 6 d_Law_has_1 (by decide) ?_
  refine x_callSN0 e_Law_37 (t_Ww_within a1 6 V L _ rfl) rfl rfl rfl (Nat.le_of_ble_eq_true rfl) (xfit_of (by omega) (Nat.le_of_ble_eq_true rfl)) (Nat.zero_le _) (Nat.zero_le _) d_Law_has_3 ?_
  refine x_if_eq 28 d_Law_has_6 (by decide) (fun c2 => ?_) (fun c2 => ?_)
  · replace h := xpos c2 h
    refine x_iconst 0 d_Law_has_28 (by decide) ?_
    obtain rfl := Option.some.inj h
    exact x_zreturn rfl rfl d_Law_has_29 (Nat.le_refl _) (Nat.le_refl _) ⟨rfl, rfl⟩
  · replace h := xneg c2 h
    refine x_aload_n 0 d_Law_has_9 rfl rfl ?_
    refine x_getP (q := q0 + 3) f_Law_18 (sh_law hq0) rfl d_Law_has_10 ?_
    refine x_iload_n 1 d_Law_has_13 rfl rfl ?_
    obtain ⟨c3, h⟩ := xguard h
    refine x_iaload (sh_law3 hq0) c3 d_Law_has_14 ?_
    refine x_aload_n 0 d_Law_has_15 rfl rfl ?_
    refine x_getP (q := q0 + 2) f_Law_15 (sh_law hq0) rfl d_Law_has_16 ?_
    refine x_iload_n 1 d_Law_has_19 rfl rfl ?_
    obtain ⟨c4, h⟩ := xguard h
    refine x_iaload (sh_law2 hq0) c4 d_Law_has_20 ?_
    refine x_icmp_le 28 d_Law_has_21 (by decide) (fun c5 => ?_) (fun c5 => ?_)
    · replace h := xpos c5 h
      refine x_iconst 0 d_Law_has_28 (by decide) ?_
      obtain rfl := Option.some.inj h
      exact x_zreturn rfl rfl d_Law_has_29 (Nat.le_refl _) (Nat.le_refl _) ⟨rfl, rfl⟩
    · replace h := xneg c5 h
      refine x_iconst 1 d_Law_has_24 (by decide) ?_
      refine x_goto 29 d_Law_has_25 (by decide) ?_
      obtain rfl := Option.some.inj h
      exact x_zreturn rfl rfl d_Law_has_29 (Nat.le_refl _) (Nat.le_refl _) ⟨rfl, rfl⟩
-- Reader_wrong
def f_Reader_wrong (a1 : Int32) (V : xV) : Option (Int32 × xV) := (if ((x2 V 46 1 a1) 46 5) < 0 then some (0, x2 (x2 V 46 1 a1) 46 2 (-1)) else (if 301 ≤ ((x2 V 46 1 a1) 46 5) then some (0, x2 (x2 V 46 1 a1) 46 2 (-1)) else (if xI ((x2 V 46 1 a1) 46 5) 301 = true then some (0, x2 (x2 V 46 1 a1) 46 2 ((x2 V 46 1 a1) 49 ((x2 V 46 1 a1) 46 5).toNatClampNeg)) else none)))
theorem t_Reader_wrong (a1 : Int32) (V : xV) (L : xL) (res : Int32 × xV) (h : f_Reader_wrong a1 V = some res) : xRuns (1) M_Reader_wrong [.ref 46, .int a1] (SH, V, L) (fun o h' => o = some (.int res.1) ∧ h' = (SH, res.2, L)) := by
  refine xRuns_of (by decide) (Nat.le_of_ble_eq_true rfl) ?_
  unfold f_Reader_wrong at h
  show X M_Reader_wrong (xRm (1) M_Reader_wrong) (xZ M_Reader_wrong (fun o h' => o = some (.int res.1) ∧ h' = (SH, res.2, L))) SH V L 0 0 0 [(0, .ref 46), (1, .int a1)] []
  refine x_aload_n 0 d_Reader_wrong_0 rfl rfl ?_
  refine x_iload_n 1 d_Reader_wrong_1 rfl rfl ?_
  refine x_putI f_Reader_30 sh_46 rfl rfl rfl d_Reader_wrong_2 ?_
  refine x_aload_n 0 d_Reader_wrong_5 rfl rfl ?_
  refine x_aload_n 0 d_Reader_wrong_6 rfl rfl ?_
  refine x_getI f_Reader_38 sh_46 rfl d_Reader_wrong_7 ?_
  refine x_if_lt 43 d_Reader_wrong_10 (by decide) (fun c1 => ?_) (fun c1 => ?_)
  · replace h := xpos c1 h
    refine x_iconst (-1) d_Reader_wrong_43 (by decide) ?_
    refine x_putI f_Reader_9 sh_46 rfl rfl rfl d_Reader_wrong_44 ?_
    refine x_iconst 0 d_Reader_wrong_47 (by decide) ?_
    obtain rfl := Option.some.inj h
    exact x_zreturn rfl rfl d_Reader_wrong_48 (Nat.le_refl _) (Nat.le_refl _) ⟨rfl, rfl⟩
  · replace h := xneg c1 h
    refine x_aload_n 0 d_Reader_wrong_13 rfl rfl ?_
    refine x_getI f_Reader_38 sh_46 rfl d_Reader_wrong_14 ?_
    refine x_aload_n 0 d_Reader_wrong_17 rfl rfl ?_
    refine x_getP (q := 47) f_Reader_18 sh_46 rfl d_Reader_wrong_18 ?_
    refine x_getP (q := 49) f_Reader_63 sh_47 rfl d_Reader_wrong_21 ?_
    refine x_alen 301 sh_49 (by decide) (by decide) d_Reader_wrong_24 ?_
    refine x_icmp_ge 43 d_Reader_wrong_25 (by decide) (fun c2 => ?_) (fun c2 => ?_)
    · replace h := xpos c2 h
      refine x_iconst (-1) d_Reader_wrong_43 (by decide) ?_
      refine x_putI f_Reader_9 sh_46 rfl rfl rfl d_Reader_wrong_44 ?_
      refine x_iconst 0 d_Reader_wrong_47 (by decide) ?_
      obtain rfl := Option.some.inj h
      exact x_zreturn rfl rfl d_Reader_wrong_48 (Nat.le_refl _) (Nat.le_refl _) ⟨rfl, rfl⟩
    · replace h := xneg c2 h
      refine x_aload_n 0 d_Reader_wrong_28 rfl rfl ?_
      refine x_getP (q := 47) f_Reader_18 sh_46 rfl d_Reader_wrong_29 ?_
      refine x_getP (q := 49) f_Reader_63 sh_47 rfl d_Reader_wrong_32 ?_
      refine x_aload_n 0 d_Reader_wrong_35 rfl rfl ?_
      refine x_getI f_Reader_38 sh_46 rfl d_Reader_wrong_36 ?_
      obtain ⟨c3, h⟩ := xguard h
      refine x_iaload sh_49 c3 d_Reader_wrong_39 ?_
      refine x_goto 44 d_Reader_wrong_40 (by decide) ?_
      refine x_putI f_Reader_9 sh_46 rfl rfl rfl d_Reader_wrong_44 ?_
      refine x_iconst 0 d_Reader_wrong_47 (by decide) ?_
      obtain rfl := Option.some.inj h
      exact x_zreturn rfl rfl d_Reader_wrong_48 (Nat.le_refl _) (Nat.le_refl _) ⟨rfl, rfl⟩
-- Reader_value
def f_Reader_value (V : xV) : Option (Int32) := (if (V 46 5) < 0 then some 0 else (if 301 ≤ (V 46 5) then some 0 else (if xI (V 46 5) 301 = true then some (V 50 (V 46 5).toNatClampNeg) else none)))
theorem t_Reader_value  (V : xV) (L : xL) (res : Int32) (h : f_Reader_value V = some res) : xRuns (1) M_Reader_value [.ref 46] (SH, V, L) (fun o h' => o = some (.int res) ∧ h' = (SH, V, L)) := by
  refine xRuns_of (by decide) (Nat.le_of_ble_eq_true rfl) ?_
  unfold f_Reader_value at h
  show X M_Reader_value (xRm (1) M_Reader_value) (xZ M_Reader_value (fun o h' => o = some (.int res) ∧ h' = (SH, V, L))) SH V L 0 0 0 [(0, .ref 46)] []
  refine x_aload_n 0 d_Reader_value_0 rfl rfl ?_
  refine x_getI f_Reader_38 sh_46 rfl d_Reader_value_1 ?_
  refine x_if_lt 37 d_Reader_value_4 (by decide) (fun c1 => ?_) (fun c1 => ?_)
  · replace h := xpos c1 h
    refine x_iconst 0 d_Reader_value_37 (by decide) ?_
    obtain rfl := Option.some.inj h
    exact x_ireturn rfl d_Reader_value_38 (Nat.le_refl _) (Nat.le_refl _) ⟨rfl, rfl⟩
  · replace h := xneg c1 h
    refine x_aload_n 0 d_Reader_value_7 rfl rfl ?_
    refine x_getI f_Reader_38 sh_46 rfl d_Reader_value_8 ?_
    refine x_aload_n 0 d_Reader_value_11 rfl rfl ?_
    refine x_getP (q := 47) f_Reader_18 sh_46 rfl d_Reader_value_12 ?_
    refine x_getP (q := 50) f_Reader_60 sh_47 rfl d_Reader_value_15 ?_
    refine x_alen 301 sh_50 (by decide) (by decide) d_Reader_value_18 ?_
    refine x_icmp_ge 37 d_Reader_value_19 (by decide) (fun c2 => ?_) (fun c2 => ?_)
    · replace h := xpos c2 h
      refine x_iconst 0 d_Reader_value_37 (by decide) ?_
      obtain rfl := Option.some.inj h
      exact x_ireturn rfl d_Reader_value_38 (Nat.le_refl _) (Nat.le_refl _) ⟨rfl, rfl⟩
    · replace h := xneg c2 h
      refine x_aload_n 0 d_Reader_value_22 rfl rfl ?_
      refine x_getP (q := 47) f_Reader_18 sh_46 rfl d_Reader_value_23 ?_
      refine x_getP (q := 50) f_Reader_60 sh_47 rfl d_Reader_value_26 ?_
      refine x_aload_n 0 d_Reader_value_29 rfl rfl ?_
      refine x_getI f_Reader_38 sh_46 rfl d_Reader_value_30 ?_
      obtain ⟨c3, h⟩ := xguard h
      refine x_iaload sh_50 c3 d_Reader_value_33 ?_
      refine x_goto 38 d_Reader_value_34 (by decide) ?_
      obtain rfl := Option.some.inj h
      exact x_ireturn rfl d_Reader_value_38 (Nat.le_refl _) (Nat.le_refl _) ⟨rfl, rfl⟩
-- Reader_faultOfPlain
def f_Reader_faultOfPlain (a1 : Int32) (a2 : Int32) (V : xV) : Option (Int32) := (if ¬ a1 = 35 then (if (a1 - 9) < 0 then some 1 else (if (a1 - 9) < 13 then (if xI (a1 - 9) 13 = true then (if ¬ (((xNames.getD (a1 - 9).toNatClampNeg 0) >>> (V 46 6 &&& 31)) &&& 1) = 0 then some 0 else some 5) else none) else some 1)) else (if a2 ≤ 9999 then some 0 else some 2))
theorem t_Reader_faultOfPlain (a1 : Int32) (a2 : Int32) (V : xV) (L : xL) (res : Int32) (h : f_Reader_faultOfPlain a1 a2 V = some res) : xRuns (1) M_Reader_faultOfPlain [.ref 46, .int a1, .int a2] (SH, V, L) (fun o h' => o = some (.int res) ∧ h' = (SH, V, L)) := by
  refine xRuns_of (by decide) (Nat.le_of_ble_eq_true rfl) ?_
  unfold f_Reader_faultOfPlain at h
  show X M_Reader_faultOfPlain (xRm (1) M_Reader_faultOfPlain) (xZ M_Reader_faultOfPlain (fun o h' => o = some (.int res) ∧ h' = (SH, V, L))) SH V L 0 0 0 [(0, .ref 46), (1, .int a1), (2, .int a2)] []
  refine x_iload_n 1 d_Reader_faultOfPlain_0 rfl rfl ?_
  refine x_bipush 35 d_Reader_faultOfPlain_1 (by decide) ?_
  refine x_icmp_ne 19 d_Reader_faultOfPlain_3 (by decide) (fun c1 => ?_) (fun c1 => ?_)
  · replace h := xpos c1 h
    refine x_iload_n 1 d_Reader_faultOfPlain_19 rfl rfl ?_
    refine x_bipush 9 d_Reader_faultOfPlain_20 (by decide) ?_
    refine x_isub d_Reader_faultOfPlain_22 ?_
    refine x_istore_n [(3, .int (a1 - 9)), (0, .ref 46), (1, .int a1), (2, .int a2)] d_Reader_faultOfPlain_23 rfl (Nat.le_of_ble_eq_true rfl) rfl ?_
    refine x_iload_n 0 d_Reader_faultOfPlain_24 rfl rfl ?_
    refine x_if_lt 36 d_Reader_faultOfPlain_25 (by decide) (fun c2 => ?_) (fun c2 => ?_)
    · replace h := xpos c2 h
      refine x_iconst 1 d_Reader_faultOfPlain_36 (by decide) ?_
      obtain rfl := Option.some.inj h
      exact x_ireturn rfl d_Reader_faultOfPlain_37 (Nat.le_refl _) (Nat.le_refl _) ⟨rfl, rfl⟩
    · replace h := xneg c2 h
      refine x_iload_n 0 d_Reader_faultOfPlain_28 rfl rfl ?_
      refine x_getNames w_names d_Reader_faultOfPlain_29 ?_
      refine x_namesLen d_Reader_faultOfPlain_32 ?_
      refine x_icmp_lt 38 d_Reader_faultOfPlain_33 (by decide) (fun c3 => ?_) (fun c3 => ?_)
      · replace h := xpos c3 h
        refine x_getNames w_names d_Reader_faultOfPlain_38 ?_
        refine x_iload_n 0 d_Reader_faultOfPlain_41 rfl rfl ?_
        obtain ⟨c4, h⟩ := xguard h
        refine x_namesAt c4 d_Reader_faultOfPlain_42 ?_
        refine x_aload_n 1 d_Reader_faultOfPlain_43 rfl rfl ?_
        refine x_getI f_Reader_66 sh_46 rfl d_Reader_faultOfPlain_44 ?_
        refine x_ishr d_Reader_faultOfPlain_47 ?_
        refine x_iconst 1 d_Reader_faultOfPlain_48 (by decide) ?_
        refine x_iand d_Reader_faultOfPlain_49 ?_
        refine x_if_ne 57 d_Reader_faultOfPlain_50 (by decide) (fun c5 => ?_) (fun c5 => ?_)
        · replace h := xpos c5 h
          refine x_iconst 0 d_Reader_faultOfPlain_57 (by decide) ?_
          obtain rfl := Option.some.inj h
          exact x_ireturn rfl d_Reader_faultOfPlain_58 (Nat.le_refl _) (Nat.le_refl _) ⟨rfl, rfl⟩
        · replace h := xneg c5 h
          refine x_iconst 5 d_Reader_faultOfPlain_53 (by decide) ?_
          refine x_goto 58 d_Reader_faultOfPlain_54 (by decide) ?_
          obtain rfl := Option.some.inj h
          exact x_ireturn rfl d_Reader_faultOfPlain_58 (Nat.le_refl _) (Nat.le_refl _) ⟨rfl, rfl⟩
      · replace h := xneg c3 h
        refine x_iconst 1 d_Reader_faultOfPlain_36 (by decide) ?_
        obtain rfl := Option.some.inj h
        exact x_ireturn rfl d_Reader_faultOfPlain_37 (Nat.le_refl _) (Nat.le_refl _) ⟨rfl, rfl⟩
  · replace h := xneg c1 h
    refine x_iload_n 2 d_Reader_faultOfPlain_6 rfl rfl ?_
    refine x_sipush 9999 d_Reader_faultOfPlain_7 (by decide) ?_
    refine x_icmp_le 17 d_Reader_faultOfPlain_10 (by decide) (fun c6 => ?_) (fun c6 => ?_)
    · replace h := xpos c6 h
      refine x_iconst 0 d_Reader_faultOfPlain_17 (by decide) ?_
      obtain rfl := Option.some.inj h
      exact x_ireturn rfl d_Reader_faultOfPlain_18 (Nat.le_refl _) (Nat.le_refl _) ⟨rfl, rfl⟩
    · replace h := xneg c6 h
      refine x_iconst 2 d_Reader_faultOfPlain_13 (by decide) ?_
      refine x_goto 18 d_Reader_faultOfPlain_14 (by decide) ?_
      obtain rfl := Option.some.inj h
      exact x_ireturn rfl d_Reader_faultOfPlain_18 (Nat.le_refl _) (Nat.le_refl _) ⟨rfl, rfl⟩
-- Reader_emitIf
def f_Reader_emitIf (a1 : Int32) (a2 : Int32) (V : xV) : Option (xV) := (if a1 = 0 then some V else (if lawB (V 46 4).toNatClampNeg = true then (if (V ((V 46 4).toNatClampNeg) 5) < 0 then some V else (if lawB (V 46 4).toNatClampNeg = true then (if lawB (V 46 4).toNatClampNeg = true then (if 300 ≤ (V ((V 46 4).toNatClampNeg) 5) then some V else (if lawB (V 46 4).toNatClampNeg = true then (if lawB (V 46 4).toNatClampNeg = true then (if xI (V ((V 46 4).toNatClampNeg) 5) 300 = true then (if lawB ((x2 V ((V 46 4).toNatClampNeg + 1) ((V ((V 46 4).toNatClampNeg) 5).toNatClampNeg) a2) 46 4).toNatClampNeg = true then some (x2 (x2 V ((V 46 4).toNatClampNeg + 1) ((V ((V 46 4).toNatClampNeg) 5).toNatClampNeg) a2) (((x2 V ((V 46 4).toNatClampNeg + 1) ((V ((V 46 4).toNatClampNeg) 5).toNatClampNeg) a2) 46 4).toNatClampNeg) 5 (((x2 V ((V 46 4).toNatClampNeg + 1) ((V ((V 46 4).toNatClampNeg) 5).toNatClampNeg) a2) (((x2 V ((V 46 4).toNatClampNeg + 1) ((V ((V 46 4).toNatClampNeg) 5).toNatClampNeg) a2) 46 4).toNatClampNeg) 5) + 1)) else none) else none) else none) else none)) else none) else none)) else none))
theorem t_Reader_emitIf (a1 : Int32) (a2 : Int32) (V : xV) (L : xL) (res : xV) (h : f_Reader_emitIf a1 a2 V = some res) : xRuns (1) M_Reader_emitIf [.ref 46, .int a1, .int a2] (SH, V, L) (fun o h' => o = none ∧ h' = (SH, res, L)) := by
  refine xRuns_of (by decide) (Nat.le_of_ble_eq_true rfl) ?_
  unfold f_Reader_emitIf at h
  show X M_Reader_emitIf (xRm (1) M_Reader_emitIf) (xZ M_Reader_emitIf (fun o h' => o = none ∧ h' = (SH, res, L))) SH V L 0 0 0 [(0, .ref 46), (1, .int a1), (2, .int a2)] []
  refine x_iload_n 1 d_Reader_emitIf_0 rfl rfl ?_
  refine x_if_eq 61 d_Reader_emitIf_1 (by decide) (fun c1 => ?_) (fun c1 => ?_)
  · replace h := xpos c1 h
    obtain rfl := Option.some.inj h
    exact x_return rfl d_Reader_emitIf_61 (Nat.le_refl _) (Nat.le_refl _) ⟨rfl, rfl⟩
  · replace h := xneg c1 h
    refine x_aload_n 0 d_Reader_emitIf_4 rfl rfl ?_
    obtain ⟨c2, h⟩ := xguard h
    refine x_getU f_Reader_22 sh_46 rfl d_Reader_emitIf_5 ?_
    refine x_getI f_Reader_80 (sh_law c2) rfl d_Reader_emitIf_8 ?_
    refine x_if_lt 61 d_Reader_emitIf_11 (by decide) (fun c3 => ?_) (fun c3 => ?_)
    · replace h := xpos c3 h
      obtain rfl := Option.some.inj h
      exact x_return rfl d_Reader_emitIf_61 (Nat.le_refl _) (Nat.le_refl _) ⟨rfl, rfl⟩
    · replace h := xneg c3 h
      refine x_aload_n 0 d_Reader_emitIf_14 rfl rfl ?_
      obtain ⟨c4, h⟩ := xguard h
      refine x_getU f_Reader_22 sh_46 rfl d_Reader_emitIf_15 ?_
      refine x_getI f_Reader_80 (sh_law c4) rfl d_Reader_emitIf_18 ?_
      refine x_aload_n 0 d_Reader_emitIf_21 rfl rfl ?_
      obtain ⟨c5, h⟩ := xguard h
      refine x_getU f_Reader_22 sh_46 rfl d_Reader_emitIf_22 ?_
      refine x_getP (q := (V 46 4).toNatClampNeg + 1) f_Reader_113 (sh_law c5) rfl d_Reader_emitIf_25 ?_
      refine x_alen 300 (sh_law1 c5) (by decide) (by decide) d_Reader_emitIf_28 ?_
      refine x_icmp_ge 61 d_Reader_emitIf_29 (by decide) (fun c6 => ?_) (fun c6 => ?_)
      · replace h := xpos c6 h
        obtain rfl := Option.some.inj h
        exact x_return rfl d_Reader_emitIf_61 (Nat.le_refl _) (Nat.le_refl _) ⟨rfl, rfl⟩
      · replace h := xneg c6 h
        refine x_aload_n 0 d_Reader_emitIf_32 rfl rfl ?_
        obtain ⟨c7, h⟩ := xguard h
        refine x_getU f_Reader_22 sh_46 rfl d_Reader_emitIf_33 ?_
        refine x_getP (q := (V 46 4).toNatClampNeg + 1) f_Reader_113 (sh_law c7) rfl d_Reader_emitIf_36 ?_
        refine x_aload_n 0 d_Reader_emitIf_39 rfl rfl ?_
        obtain ⟨c8, h⟩ := xguard h
        refine x_getU f_Reader_22 sh_46 rfl d_Reader_emitIf_40 ?_
        refine x_getI f_Reader_80 (sh_law c8) rfl d_Reader_emitIf_43 ?_
        refine x_iload_n 2 d_Reader_emitIf_46 rfl rfl ?_
        obtain ⟨c9, h⟩ := xguard h
        refine x_iastore (sh_law1 c7) c9 d_Reader_emitIf_47 ?_
        refine x_aload_n 0 d_Reader_emitIf_48 rfl rfl ?_
        obtain ⟨c10, h⟩ := xguard h
        refine x_getU f_Reader_22 sh_46 rfl d_Reader_emitIf_49 ?_
        refine x_dup d_Reader_emitIf_52 rfl ?_
        refine x_getI f_Reader_80 (sh_law c10) rfl d_Reader_emitIf_53 ?_
        refine x_iconst 1 d_Reader_emitIf_56 (by decide) ?_
        refine x_iadd d_Reader_emitIf_57 ?_
        refine x_putI f_Reader_80 (sh_law c10) rfl rfl rfl d_Reader_emitIf_58 ?_
        obtain rfl := Option.some.inj h
        exact x_return rfl d_Reader_emitIf_61 (Nat.le_refl _) (Nat.le_refl _) ⟨rfl, rfl⟩
-- Reader_readOne
def b_Reader_readOne_161 (r_Reader_readSum : Int32 → xV → Option (Int32 × xV)) (v1 : Int32) (v2 : Int32) (V : xV) : Option (Int32 × xV) := (if ¬ (xrem (v2 - v1) 2) = 1 then (Option.bind (f_Reader_emitIf 0 (-39) (x2 V 46 5 ((V 46 5) + 1))) fun p47 => some (1, p47)) else (Option.bind (f_Reader_emitIf 1 (-39) (x2 V 46 5 ((V 46 5) + 1))) fun p49 => some (1, p49)))
theorem tb_Reader_readOne_161 (e : Nat) (he : 4 ≤ e) (r_Reader_readSum : Int32 → xV → Option (Int32 × xV)) (hr_Reader_readSum : ∀ (x0 : Int32) (V : xV) (L : xL) (p : Int32 × xV), r_Reader_readSum x0 V = some p → xRuns e M_Reader_readSum [.ref 46, .int x0] (SH, V, L) (fun o h' => o = some (.int p.1) ∧ h' = (SH, p.2, L))) {L : xL} (res : Int32 × xV)  (v1 : Int32) (v2 : Int32) (V : xV) (h : b_Reader_readOne_161 r_Reader_readSum v1 v2 V = some res) : X M_Reader_readOne (xRm (e + 1) M_Reader_readOne) (xZ M_Reader_readOne (fun o h' => o = some (.int res.1) ∧ h' = (SH, res.2, L))) SH V L 0 0 161 [(0, .ref 46), (1, .int v1), (2, .int v2)] [] := by
  unfold b_Reader_readOne_161 at h
  refine x_aload_n 0 d_Reader_readOne_161 rfl rfl ?_
  refine x_dup d_Reader_readOne_162 rfl ?_
  refine x_getI f_Reader_38 sh_46 rfl d_Reader_readOne_163 ?_
  refine x_iconst 1 d_Reader_readOne_166 (by decide) ?_
  refine x_iadd d_Reader_readOne_167 ?_
  refine x_putI f_Reader_38 sh_46 rfl rfl rfl d_Reader_readOne_168 ?_
  refine x_aload_n 0 d_Reader_readOne_171 rfl rfl ?_
  refine x_iload_n 2 d_Reader_readOne_172 rfl rfl ?_
  refine x_iload_n 1 d_Reader_readOne_173 rfl rfl ?_
  refine x_isub d_Reader_readOne_174 ?_
  refine x_iconst 2 d_Reader_readOne_175 (by decide) ?_
  refine x_irem2 d_Reader_readOne_176 (by decide) ?_
  refine x_iconst 1 d_Reader_readOne_177 (by decide) ?_
  refine x_icmp_ne 185 d_Reader_readOne_178 (by decide) (fun c46 => ?_) (fun c46 => ?_)
  · replace h := xpos c46 h
    refine x_iconst 0 d_Reader_readOne_185 (by decide) ?_
    refine x_bipush (-39) d_Reader_readOne_186 (by decide) ?_
    obtain ⟨p47, e48, h⟩ := xbind h
    refine x_callV0v e_Reader_96 sh_46 rfl (t_Reader_emitIf 0 (-39) (x2 V 46 5 ((V 46 5) + 1)) L _ e48) rfl rfl rfl (Nat.le_of_ble_eq_true rfl) (xfit_of (by omega) (Nat.le_of_ble_eq_true rfl)) (Nat.zero_le _) (Nat.zero_le _) d_Reader_readOne_188 ?_
    refine x_iconst 1 d_Reader_readOne_191 (by decide) ?_
    obtain rfl := Option.some.inj h
    exact x_zreturn rfl rfl d_Reader_readOne_192 (Nat.le_refl _) (Nat.le_refl _) ⟨rfl, rfl⟩
  · replace h := xneg c46 h
    refine x_iconst 1 d_Reader_readOne_181 (by decide) ?_
    refine x_goto 186 d_Reader_readOne_182 (by decide) ?_
    refine x_bipush (-39) d_Reader_readOne_186 (by decide) ?_
    obtain ⟨p49, e50, h⟩ := xbind h
    refine x_callV0v e_Reader_96 sh_46 rfl (t_Reader_emitIf 1 (-39) (x2 V 46 5 ((V 46 5) + 1)) L _ e50) rfl rfl rfl (Nat.le_of_ble_eq_true rfl) (xfit_of (by omega) (Nat.le_of_ble_eq_true rfl)) (Nat.zero_le _) (Nat.zero_le _) d_Reader_readOne_188 ?_
    refine x_iconst 1 d_Reader_readOne_191 (by decide) ?_
    obtain rfl := Option.some.inj h
    exact x_zreturn rfl rfl d_Reader_readOne_192 (Nat.le_refl _) (Nat.le_refl _) ⟨rfl, rfl⟩
def b_Reader_readOne_50 (r_Reader_readSum : Int32 → xV → Option (Int32 × xV)) (v1 : Int32) (v2 : Int32) (V : xV) : Option (Int32 × xV) := (Option.bind (f_Reader_kind V) fun p9 => (if p9 = 32 then (if v2 < 8 then (Option.bind (r_Reader_readSum (v2 + 1) (x2 V 46 5 ((V 46 5) + 1))) fun p13 => (if ¬ p13.1 = 0 then (Option.bind (f_Reader_kind p13.2) fun p16 => (if p16 = 33 then b_Reader_readOne_161 r_Reader_readSum v1 v2 p13.2 else (Option.bind (f_Reader_wrong 1 p13.2) fun p19 => (if p19.1 = 0 ∨ p19.1 = 1 then some (p19.1, p19.2) else none)))) else some (0, p13.2))) else (Option.bind (f_Reader_wrong 3 V) fun p22 => (if p22.1 = 0 ∨ p22.1 = 1 then some (p22.1, p22.2) else none))) else (Option.bind (f_Reader_kind V) fun p25 => (Option.bind (f_Reader_value V) fun p27 => (Option.bind (f_Reader_faultOfPlain p25 p27 V) fun p29 => (if p29 = 0 then (Option.bind (f_Reader_kind V) fun p32 => (if ¬ p32 = 35 then (Option.bind (f_Reader_kind V) fun p35 => (Option.bind (f_Reader_emitIf 1 ((-1) - p35) V) fun p37 => b_Reader_readOne_161 r_Reader_readSum v1 v2 p37)) else (Option.bind (f_Reader_value V) fun p39 => (Option.bind (f_Reader_emitIf 1 p39 V) fun p41 => b_Reader_readOne_161 r_Reader_readSum v1 v2 p41)))) else (Option.bind (f_Reader_wrong p29 V) fun p43 => (if p43.1 = 0 ∨ p43.1 = 1 then some (p43.1, p43.2) else none))))))))
theorem tb_Reader_readOne_50 (e : Nat) (he : 4 ≤ e) (r_Reader_readSum : Int32 → xV → Option (Int32 × xV)) (hr_Reader_readSum : ∀ (x0 : Int32) (V : xV) (L : xL) (p : Int32 × xV), r_Reader_readSum x0 V = some p → xRuns e M_Reader_readSum [.ref 46, .int x0] (SH, V, L) (fun o h' => o = some (.int p.1) ∧ h' = (SH, p.2, L))) {L : xL} (res : Int32 × xV)  (v1 : Int32) (v2 : Int32) (V : xV) (h : b_Reader_readOne_50 r_Reader_readSum v1 v2 V = some res) : X M_Reader_readOne (xRm (e + 1) M_Reader_readOne) (xZ M_Reader_readOne (fun o h' => o = some (.int res.1) ∧ h' = (SH, res.2, L))) SH V L 0 0 50 [(0, .ref 46), (1, .int v1), (2, .int v2)] [] := by
  unfold b_Reader_readOne_50 at h
  refine x_aload_n 0 d_Reader_readOne_50 rfl rfl ?_
  obtain ⟨p9, e10, h⟩ := xbind h
  refine x_callV0 e_Reader_48 sh_46 rfl (t_Reader_kind V L _ e10) rfl rfl rfl (Nat.le_of_ble_eq_true rfl) (xfit_of (by omega) (Nat.le_of_ble_eq_true rfl)) (Nat.zero_le _) (Nat.zero_le _) d_Reader_readOne_51 ?_
  refine x_bipush 32 d_Reader_readOne_54 (by decide) ?_
  refine x_icmp_eq 112 d_Reader_readOne_56 (by decide) (fun c11 => ?_) (fun c11 => ?_)
  · replace h := xpos c11 h
    refine x_iload_n 2 d_Reader_readOne_112 rfl rfl ?_
    refine x_bipush 8 d_Reader_readOne_113 (by decide) ?_
    refine x_icmp_lt 124 d_Reader_readOne_115 (by decide) (fun c12 => ?_) (fun c12 => ?_)
    · replace h := xpos c12 h
      refine x_aload_n 0 d_Reader_readOne_124 rfl rfl ?_
      refine x_dup d_Reader_readOne_125 rfl ?_
      refine x_getI f_Reader_38 sh_46 rfl d_Reader_readOne_126 ?_
      refine x_iconst 1 d_Reader_readOne_129 (by decide) ?_
      refine x_iadd d_Reader_readOne_130 ?_
      refine x_putI f_Reader_38 sh_46 rfl rfl rfl d_Reader_readOne_131 ?_
      refine x_aload_n 0 d_Reader_readOne_134 rfl rfl ?_
      refine x_iload_n 2 d_Reader_readOne_135 rfl rfl ?_
      refine x_iconst 1 d_Reader_readOne_136 (by decide) ?_
      refine x_iadd d_Reader_readOne_137 ?_
      obtain ⟨p13, e14, h⟩ := xbind h
      refine x_callV0 e_Reader_83 sh_46 rfl (hr_Reader_readSum (v2 + 1) (x2 V 46 5 ((V 46 5) + 1)) L _ e14) rfl rfl rfl (Nat.le_of_ble_eq_true rfl) (xfit_of (by omega) (Nat.le_of_ble_eq_true rfl)) (Nat.zero_le _) (Nat.zero_le _) d_Reader_readOne_138 ?_
      refine x_if_ne 146 d_Reader_readOne_141 (by decide) (fun c15 => ?_) (fun c15 => ?_)
      · replace h := xpos c15 h
        refine x_aload_n 0 d_Reader_readOne_146 rfl rfl ?_
        obtain ⟨p16, e17, h⟩ := xbind h
        refine x_callV0 e_Reader_48 sh_46 rfl (t_Reader_kind p13.2 L _ e17) rfl rfl rfl (Nat.le_of_ble_eq_true rfl) (xfit_of (by omega) (Nat.le_of_ble_eq_true rfl)) (Nat.zero_le _) (Nat.zero_le _) d_Reader_readOne_147 ?_
        refine x_bipush 33 d_Reader_readOne_150 (by decide) ?_
        refine x_icmp_eq 161 d_Reader_readOne_152 (by decide) (fun c18 => ?_) (fun c18 => ?_)
        · replace h := xpos c18 h
          exact tb_Reader_readOne_161 e he r_Reader_readSum hr_Reader_readSum (L := L) res v1 v2 p13.2 h
        · replace h := xneg c18 h
          refine x_aload_n 0 d_Reader_readOne_155 rfl rfl ?_
          refine x_iconst 1 d_Reader_readOne_156 (by decide) ?_
          obtain ⟨p19, e20, h⟩ := xbind h
          refine x_callV0 e_Reader_73 sh_46 rfl (t_Reader_wrong 1 p13.2 L _ e20) rfl rfl rfl (Nat.le_of_ble_eq_true rfl) (xfit_of (by omega) (Nat.le_of_ble_eq_true rfl)) (Nat.zero_le _) (Nat.zero_le _) d_Reader_readOne_157 ?_
          obtain ⟨c21, h⟩ := xguard h
          obtain rfl := Option.some.inj h
          exact x_zreturn rfl (xnz c21) d_Reader_readOne_160 (Nat.le_refl _) (Nat.le_refl _) ⟨rfl, rfl⟩
      · replace h := xneg c15 h
        refine x_iconst 0 d_Reader_readOne_144 (by decide) ?_
        obtain rfl := Option.some.inj h
        exact x_zreturn rfl rfl d_Reader_readOne_145 (Nat.le_refl _) (Nat.le_refl _) ⟨rfl, rfl⟩
    · replace h := xneg c12 h
      refine x_aload_n 0 d_Reader_readOne_118 rfl rfl ?_
      refine x_iconst 3 d_Reader_readOne_119 (by decide) ?_
      obtain ⟨p22, e23, h⟩ := xbind h
      refine x_callV0 e_Reader_73 sh_46 rfl (t_Reader_wrong 3 V L _ e23) rfl rfl rfl (Nat.le_of_ble_eq_true rfl) (xfit_of (by omega) (Nat.le_of_ble_eq_true rfl)) (Nat.zero_le _) (Nat.zero_le _) d_Reader_readOne_120 ?_
      obtain ⟨c24, h⟩ := xguard h
      obtain rfl := Option.some.inj h
      exact x_zreturn rfl (xnz c24) d_Reader_readOne_123 (Nat.le_refl _) (Nat.le_refl _) ⟨rfl, rfl⟩
  · replace h := xneg c11 h
    refine x_aload_n 0 d_Reader_readOne_59 rfl rfl ?_
    refine x_aload_n 0 d_Reader_readOne_60 rfl rfl ?_
    obtain ⟨p25, e26, h⟩ := xbind h
    refine x_callV0 e_Reader_48 sh_46 rfl (t_Reader_kind V L _ e26) rfl rfl rfl (Nat.le_of_ble_eq_true rfl) (xfit_of (by omega) (Nat.le_of_ble_eq_true rfl)) (Nat.zero_le _) (Nat.zero_le _) d_Reader_readOne_61 ?_
    refine x_aload_n 0 d_Reader_readOne_64 rfl rfl ?_
    obtain ⟨p27, e28, h⟩ := xbind h
    refine x_callV0 e_Reader_103 sh_46 rfl (t_Reader_value V L _ e28) rfl rfl rfl (Nat.le_of_ble_eq_true rfl) (xfit_of (by omega) (Nat.le_of_ble_eq_true rfl)) (Nat.zero_le _) (Nat.zero_le _) d_Reader_readOne_65 ?_
    obtain ⟨p29, e30, h⟩ := xbind h
    refine x_callV0 e_Reader_106 sh_46 rfl (t_Reader_faultOfPlain p25 p27 V L _ e30) rfl rfl rfl (Nat.le_of_ble_eq_true rfl) (xfit_of (by omega) (Nat.le_of_ble_eq_true rfl)) (Nat.zero_le _) (Nat.zero_le _) d_Reader_readOne_68 ?_
    refine x_istore_n [(3, .int p29), (0, .ref 46), (1, .int v1), (2, .int v2)] d_Reader_readOne_71 rfl (Nat.le_of_ble_eq_true rfl) rfl ?_
    refine x_iload_n 0 d_Reader_readOne_72 rfl rfl ?_
    refine x_if_eq 82 d_Reader_readOne_73 (by decide) (fun c31 => ?_) (fun c31 => ?_)
    · replace h := xpos c31 h
      refine x_aload_n 1 d_Reader_readOne_82 rfl rfl ?_
      refine x_iconst 1 d_Reader_readOne_83 (by decide) ?_
      refine x_aload_n 1 d_Reader_readOne_84 rfl rfl ?_
      obtain ⟨p32, e33, h⟩ := xbind h
      refine x_callV0 e_Reader_48 sh_46 rfl (t_Reader_kind V L _ e33) rfl rfl rfl (Nat.le_of_ble_eq_true rfl) (xfit_of (by omega) (Nat.le_of_ble_eq_true rfl)) (Nat.zero_le _) (Nat.zero_le _) d_Reader_readOne_85 ?_
      refine x_bipush 35 d_Reader_readOne_88 (by decide) ?_
      refine x_icmp_ne 100 d_Reader_readOne_90 (by decide) (fun c34 => ?_) (fun c34 => ?_)
      · replace h := xpos c34 h
        refine x_iconst (-1) d_Reader_readOne_100 (by decide) ?_
        refine x_aload_n 1 d_Reader_readOne_101 rfl rfl ?_
        obtain ⟨p35, e36, h⟩ := xbind h
        refine x_callV0 e_Reader_48 sh_46 rfl (t_Reader_kind V L _ e36) rfl rfl rfl (Nat.le_of_ble_eq_true rfl) (xfit_of (by omega) (Nat.le_of_ble_eq_true rfl)) (Nat.zero_le _) (Nat.zero_le _) d_Reader_readOne_102 ?_
        refine x_isub d_Reader_readOne_105 ?_
        obtain ⟨p37, e38, h⟩ := xbind h
        refine x_callV0v e_Reader_96 sh_46 rfl (t_Reader_emitIf 1 ((-1) - p35) V L _ e38) rfl rfl rfl (Nat.le_of_ble_eq_true rfl) (xfit_of (by omega) (Nat.le_of_ble_eq_true rfl)) (Nat.zero_le _) (Nat.zero_le _) d_Reader_readOne_106 ?_
        refine x_goto 161 d_Reader_readOne_109 (by decide) ?_
        refine x_pick [1, 2, 3] rfl ?_
        exact tb_Reader_readOne_161 e he r_Reader_readSum hr_Reader_readSum (L := L) res v1 v2 p37 h
      · replace h := xneg c34 h
        refine x_aload_n 1 d_Reader_readOne_93 rfl rfl ?_
        obtain ⟨p39, e40, h⟩ := xbind h
        refine x_callV0 e_Reader_103 sh_46 rfl (t_Reader_value V L _ e40) rfl rfl rfl (Nat.le_of_ble_eq_true rfl) (xfit_of (by omega) (Nat.le_of_ble_eq_true rfl)) (Nat.zero_le _) (Nat.zero_le _) d_Reader_readOne_94 ?_
        refine x_goto 106 d_Reader_readOne_97 (by decide) ?_
        obtain ⟨p41, e42, h⟩ := xbind h
        refine x_callV0v e_Reader_96 sh_46 rfl (t_Reader_emitIf 1 p39 V L _ e42) rfl rfl rfl (Nat.le_of_ble_eq_true rfl) (xfit_of (by omega) (Nat.le_of_ble_eq_true rfl)) (Nat.zero_le _) (Nat.zero_le _) d_Reader_readOne_106 ?_
        refine x_goto 161 d_Reader_readOne_109 (by decide) ?_
        refine x_pick [1, 2, 3] rfl ?_
        exact tb_Reader_readOne_161 e he r_Reader_readSum hr_Reader_readSum (L := L) res v1 v2 p41 h
    · replace h := xneg c31 h
      refine x_aload_n 1 d_Reader_readOne_76 rfl rfl ?_
      refine x_iload_n 0 d_Reader_readOne_77 rfl rfl ?_
      obtain ⟨p43, e44, h⟩ := xbind h
      refine x_callV0 e_Reader_73 sh_46 rfl (t_Reader_wrong p29 V L _ e44) rfl rfl rfl (Nat.le_of_ble_eq_true rfl) (xfit_of (by omega) (Nat.le_of_ble_eq_true rfl)) (Nat.zero_le _) (Nat.zero_le _) d_Reader_readOne_78 ?_
      obtain ⟨c45, h⟩ := xguard h
      obtain rfl := Option.some.inj h
      exact x_zreturn rfl (xnz c45) d_Reader_readOne_81 (Nat.le_refl _) (Nat.le_refl _) ⟨rfl, rfl⟩
def b_Reader_readOne_4 (r_Reader_readSum : Int32 → xV → Option (Int32 × xV)) (k4 : Int32 → Int32 → Int32 → xV → Option (Int32 × xV)) (v1 : Int32) (v2 : Int32) (v3 : Int32) (V : xV) : Option (Int32 × xV) := (if 8 < v3 then b_Reader_readOne_50 r_Reader_readSum v1 v2 V else (Option.bind (f_Reader_kind V) fun p2 => (if ¬ p2 = 29 then b_Reader_readOne_50 r_Reader_readSum v1 v2 V else (if v2 < 8 then k4 v1 (v2 + 1) (v3 + 1) (x2 V 46 5 ((V 46 5) + 1)) else (Option.bind (f_Reader_wrong 3 V) fun p6 => (if p6.1 = 0 ∨ p6.1 = 1 then some (p6.1, p6.2) else none))))))
theorem tb_Reader_readOne_4 (e : Nat) (he : 4 ≤ e) (r_Reader_readSum : Int32 → xV → Option (Int32 × xV)) (hr_Reader_readSum : ∀ (x0 : Int32) (V : xV) (L : xL) (p : Int32 × xV), r_Reader_readSum x0 V = some p → xRuns e M_Reader_readSum [.ref 46, .int x0] (SH, V, L) (fun o h' => o = some (.int p.1) ∧ h' = (SH, p.2, L))) {L : xL} (k4 : Int32 → Int32 → Int32 → xV → Option (Int32 × xV)) (res : Int32 × xV) (hk4 : ∀ (v1 : Int32) (v2 : Int32) (v3 : Int32) (V : xV), k4 v1 v2 v3 V = some res → X M_Reader_readOne (xRm (e + 1) M_Reader_readOne) (xZ M_Reader_readOne (fun o h' => o = some (.int res.1) ∧ h' = (SH, res.2, L))) SH V L 0 0 4 [(0, .ref 46), (1, .int v1), (2, .int v2), (3, .int v3)] []) (v1 : Int32) (v2 : Int32) (v3 : Int32) (V : xV) (h : b_Reader_readOne_4 r_Reader_readSum k4 v1 v2 v3 V = some res) : X M_Reader_readOne (xRm (e + 1) M_Reader_readOne) (xZ M_Reader_readOne (fun o h' => o = some (.int res.1) ∧ h' = (SH, res.2, L))) SH V L 0 0 4 [(0, .ref 46), (1, .int v1), (2, .int v2), (3, .int v3)] [] := by
  unfold b_Reader_readOne_4 at h
  refine x_iload_n 3 d_Reader_readOne_4 rfl rfl ?_
  refine x_bipush 8 d_Reader_readOne_5 (by decide) ?_
  refine x_icmp_gt 50 d_Reader_readOne_7 (by decide) (fun c1 => ?_) (fun c1 => ?_)
  · replace h := xpos c1 h
    refine x_pick [0, 1, 2] rfl ?_
    exact tb_Reader_readOne_50 e he r_Reader_readSum hr_Reader_readSum (L := L) res v1 v2 V h
  · replace h := xneg c1 h
    refine x_aload_n 0 d_Reader_readOne_10 rfl rfl ?_
    obtain ⟨p2, e3, h⟩ := xbind h
    refine x_callV0 e_Reader_48 sh_46 rfl (t_Reader_kind V L _ e3) rfl rfl rfl (Nat.le_of_ble_eq_true rfl) (xfit_of (by omega) (Nat.le_of_ble_eq_true rfl)) (Nat.zero_le _) (Nat.zero_le _) d_Reader_readOne_11 ?_
    refine x_bipush 29 d_Reader_readOne_14 (by decide) ?_
    refine x_icmp_ne 50 d_Reader_readOne_16 (by decide) (fun c4 => ?_) (fun c4 => ?_)
    · replace h := xpos c4 h
      refine x_pick [0, 1, 2] rfl ?_
      exact tb_Reader_readOne_50 e he r_Reader_readSum hr_Reader_readSum (L := L) res v1 v2 V h
    · replace h := xneg c4 h
      refine x_iload_n 2 d_Reader_readOne_19 rfl rfl ?_
      refine x_bipush 8 d_Reader_readOne_20 (by decide) ?_
      refine x_icmp_lt 31 d_Reader_readOne_22 (by decide) (fun c5 => ?_) (fun c5 => ?_)
      · replace h := xpos c5 h
        refine x_iinc 2 1 [(2, .int (v2 + 1)), (0, .ref 46), (1, .int v1), (3, .int v3)] d_Reader_readOne_31 rfl (by decide) (Nat.le_of_ble_eq_true rfl) rfl ?_
        refine x_aload_n 1 d_Reader_readOne_34 rfl rfl ?_
        refine x_dup d_Reader_readOne_35 rfl ?_
        refine x_getI f_Reader_38 sh_46 rfl d_Reader_readOne_36 ?_
        refine x_iconst 1 d_Reader_readOne_39 (by decide) ?_
        refine x_iadd d_Reader_readOne_40 ?_
        refine x_putI f_Reader_38 sh_46 rfl rfl rfl d_Reader_readOne_41 ?_
        refine x_iinc 3 1 [(3, .int (v3 + 1)), (2, .int (v2 + 1)), (0, .ref 46), (1, .int v1)] d_Reader_readOne_44 rfl (by decide) (Nat.le_of_ble_eq_true rfl) rfl ?_
        refine x_goto 4 d_Reader_readOne_47 (by decide) ?_
        refine x_pick [2, 3, 1, 0] rfl ?_
        exact hk4 v1 (v2 + 1) (v3 + 1) (x2 V 46 5 ((V 46 5) + 1)) h
      · replace h := xneg c5 h
        refine x_aload_n 0 d_Reader_readOne_25 rfl rfl ?_
        refine x_iconst 3 d_Reader_readOne_26 (by decide) ?_
        obtain ⟨p6, e7, h⟩ := xbind h
        refine x_callV0 e_Reader_73 sh_46 rfl (t_Reader_wrong 3 V L _ e7) rfl rfl rfl (Nat.le_of_ble_eq_true rfl) (xfit_of (by omega) (Nat.le_of_ble_eq_true rfl)) (Nat.zero_le _) (Nat.zero_le _) d_Reader_readOne_27 ?_
        obtain ⟨c8, h⟩ := xguard h
        obtain rfl := Option.some.inj h
        exact x_zreturn rfl (xnz c8) d_Reader_readOne_30 (Nat.le_refl _) (Nat.le_refl _) ⟨rfl, rfl⟩
def g_Reader_readOne_4 (r_Reader_readSum : Int32 → xV → Option (Int32 × xV)) : Nat → Int32 → Int32 → Int32 → xV → Option (Int32 × xV)
  | 0, _, _, _, _ => none
  | n + 1, v1, v2, v3, V => b_Reader_readOne_4 r_Reader_readSum (g_Reader_readOne_4 r_Reader_readSum n) v1 v2 v3 V
theorem tg_Reader_readOne_4 (e : Nat) (he : 4 ≤ e) (r_Reader_readSum : Int32 → xV → Option (Int32 × xV)) (hr_Reader_readSum : ∀ (x0 : Int32) (V : xV) (L : xL) (p : Int32 × xV), r_Reader_readSum x0 V = some p → xRuns e M_Reader_readSum [.ref 46, .int x0] (SH, V, L) (fun o h' => o = some (.int p.1) ∧ h' = (SH, p.2, L))) {L : xL} (res : Int32 × xV)  : ∀ (n : Nat) (v1 : Int32) (v2 : Int32) (v3 : Int32) (V : xV), g_Reader_readOne_4 r_Reader_readSum n v1 v2 v3 V = some res → X M_Reader_readOne (xRm (e + 1) M_Reader_readOne) (xZ M_Reader_readOne (fun o h' => o = some (.int res.1) ∧ h' = (SH, res.2, L))) SH V L 0 0 4 [(0, .ref 46), (1, .int v1), (2, .int v2), (3, .int v3)] []
  | 0, _, _, _, _, h => by cases h
  | n + 1, v1, v2, v3, V, h => tb_Reader_readOne_4 e he r_Reader_readSum hr_Reader_readSum (L := L) (g_Reader_readOne_4 r_Reader_readSum n) res (tg_Reader_readOne_4 e he r_Reader_readSum hr_Reader_readSum (L := L) res n) v1 v2 v3 V h
def F_Reader_readOne (r_Reader_readSum : Int32 → xV → Option (Int32 × xV)) (a1 : Int32) (V : xV) : Option (Int32 × xV) := g_Reader_readOne_4 r_Reader_readSum 2000 a1 a1 0 V
theorem T_Reader_readOne (e : Nat) (he : 4 ≤ e) (r_Reader_readSum : Int32 → xV → Option (Int32 × xV)) (hr_Reader_readSum : ∀ (x0 : Int32) (V : xV) (L : xL) (p : Int32 × xV), r_Reader_readSum x0 V = some p → xRuns e M_Reader_readSum [.ref 46, .int x0] (SH, V, L) (fun o h' => o = some (.int p.1) ∧ h' = (SH, p.2, L))) (a1 : Int32) (V : xV) (L : xL) (res : Int32 × xV) (h : F_Reader_readOne r_Reader_readSum a1 V = some res) : xRuns (e + 1) M_Reader_readOne [.ref 46, .int a1] (SH, V, L) (fun o h' => o = some (.int res.1) ∧ h' = (SH, res.2, L)) := by
  refine xRuns_of (by decide) (Nat.le_of_ble_eq_true rfl) ?_
  unfold F_Reader_readOne at h
  show X M_Reader_readOne (xRm (e + 1) M_Reader_readOne) (xZ M_Reader_readOne (fun o h' => o = some (.int res.1) ∧ h' = (SH, res.2, L))) SH V L 0 0 0 [(0, .ref 46), (1, .int a1)] []
  refine x_iload_n 1 d_Reader_readOne_0 rfl rfl ?_
  refine x_istore_n [(2, .int a1), (0, .ref 46), (1, .int a1)] d_Reader_readOne_1 rfl (Nat.le_of_ble_eq_true rfl) rfl ?_
  refine x_iconst 0 d_Reader_readOne_2 (by decide) ?_
  refine x_istore_n [(3, .int 0), (2, .int a1), (0, .ref 46), (1, .int a1)] d_Reader_readOne_3 rfl (Nat.le_of_ble_eq_true rfl) rfl ?_
  refine x_pick [2, 3, 1, 0] rfl ?_
  exact tg_Reader_readOne_4 e he r_Reader_readSum hr_Reader_readSum (L := L) res _ a1 a1 0 V h
