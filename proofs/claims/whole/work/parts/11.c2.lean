theorem d_Law_asks_0 : decode M_Law_asks.2.1 0 = .ok (.aload_n 0, 1) := by decide +kernel
theorem d_Law_asks_1 : decode M_Law_asks.2.1 1 = .ok (.getfield 9, 3) := by decide +kernel
theorem d_Law_asks_4 : decode M_Law_asks.2.1 4 = .ok (.arraylength, 1) := by decide +kernel
theorem d_Law_asks_5 : decode M_Law_asks.2.1 5 = .ok (.aload_n 0, 1) := by decide +kernel
theorem d_Law_asks_6 : decode M_Law_asks.2.1 6 = .ok (.iload_n 1, 1) := by decide +kernel
theorem d_Law_asks_7 : decode M_Law_asks.2.1 7 = .ok (.invokevirtual 41, 3) := by decide +kernel
theorem d_Law_asks_10 : decode M_Law_asks.2.1 10 = .ok (.invokestatic 45, 3) := by decide +kernel
theorem d_Law_asks_13 : decode M_Law_asks.2.1 13 = .ok (.istore_n 3, 1) := by decide +kernel
theorem d_Law_asks_14 : decode M_Law_asks.2.1 14 = .ok (.iconst 0, 1) := by decide +kernel
theorem d_Law_asks_15 : decode M_Law_asks.2.1 15 = .ok (.aload_n 0, 1) := by decide +kernel
theorem d_Law_asks_16 : decode M_Law_asks.2.1 16 = .ok (.iload_n 1, 1) := by decide +kernel
theorem d_Law_asks_17 : decode M_Law_asks.2.1 17 = .ok (.invokevirtual 51, 3) := by decide +kernel
theorem d_Law_asks_20 : decode M_Law_asks.2.1 20 = .ok (.invokestatic 54, 3) := by decide +kernel
theorem d_Law_asks_23 : decode M_Law_asks.2.1 23 = .ok (.istore 4, 2) := by decide +kernel
theorem d_Law_asks_25 : decode M_Law_asks.2.1 25 = .ok (.iload 4, 2) := by decide +kernel
theorem d_Law_asks_27 : decode M_Law_asks.2.1 27 = .ok (.iload_n 3, 1) := by decide +kernel
theorem d_Law_asks_28 : decode M_Law_asks.2.1 28 = .ok (.if_icmp .ge 24, 3) := by decide +kernel
theorem d_Law_asks_31 : decode M_Law_asks.2.1 31 = .ok (.aload_n 0, 1) := by decide +kernel
theorem d_Law_asks_32 : decode M_Law_asks.2.1 32 = .ok (.getfield 9, 3) := by decide +kernel
theorem d_Law_asks_35 : decode M_Law_asks.2.1 35 = .ok (.iload 4, 2) := by decide +kernel
theorem d_Law_asks_37 : decode M_Law_asks.2.1 37 = .ok (.iaload, 1) := by decide +kernel
theorem d_Law_asks_38 : decode M_Law_asks.2.1 38 = .ok (.iconst (-1), 1) := by decide +kernel
theorem d_Law_asks_39 : decode M_Law_asks.2.1 39 = .ok (.iload_n 2, 1) := by decide +kernel
theorem d_Law_asks_40 : decode M_Law_asks.2.1 40 = .ok (.isub, 1) := by decide +kernel
theorem d_Law_asks_41 : decode M_Law_asks.2.1 41 = .ok (.if_icmp .ne 5, 3) := by decide +kernel
theorem d_Law_asks_44 : decode M_Law_asks.2.1 44 = .ok (.iconst 1, 1) := by decide +kernel
theorem d_Law_asks_45 : decode M_Law_asks.2.1 45 = .ok (.ireturn, 1) := by decide +kernel
theorem d_Law_asks_46 : decode M_Law_asks.2.1 46 = .ok (.iinc 4 1, 3) := by decide +kernel
theorem d_Law_asks_49 : decode M_Law_asks.2.1 49 = .ok (.goto (-24), 3) := by decide +kernel
theorem d_Law_asks_52 : decode M_Law_asks.2.1 52 = .ok (.iconst 0, 1) := by decide +kernel
theorem d_Law_asks_53 : decode M_Law_asks.2.1 53 = .ok (.ireturn, 1) := by decide +kernel
theorem d_Ww_letGo_0 : decode M_Ww_letGo.2.1 0 = .ok (.aload_n 0, 1) := by decide +kernel
theorem d_Ww_letGo_1 : decode M_Ww_letGo.2.1 1 = .ok (.getfield 31, 3) := by decide +kernel
theorem d_Ww_letGo_4 : decode M_Ww_letGo.2.1 4 = .ok (.invokevirtual 141, 3) := by decide +kernel
theorem d_Ww_letGo_7 : decode M_Ww_letGo.2.1 7 = .ok (.astore_n 1, 1) := by decide +kernel
theorem d_Ww_letGo_8 : decode M_Ww_letGo.2.1 8 = .ok (.aload_n 1, 1) := by decide +kernel
theorem d_Ww_letGo_9 : decode M_Ww_letGo.2.1 9 = .ok (.iconst 0, 1) := by decide +kernel
theorem d_Ww_letGo_10 : decode M_Ww_letGo.2.1 10 = .ok (.invokevirtual 144, 3) := by decide +kernel
theorem d_Ww_letGo_13 : decode M_Ww_letGo.2.1 13 = .ok (.ifCond .ne 5, 3) := by decide +kernel
theorem d_Ww_letGo_16 : decode M_Ww_letGo.2.1 16 = .ok (.iconst (-1), 1) := by decide +kernel
theorem d_Ww_letGo_17 : decode M_Ww_letGo.2.1 17 = .ok (.ireturn, 1) := by decide +kernel
theorem d_Ww_letGo_18 : decode M_Ww_letGo.2.1 18 = .ok (.aload_n 1, 1) := by decide +kernel
theorem d_Ww_letGo_19 : decode M_Ww_letGo.2.1 19 = .ok (.iconst 0, 1) := by decide +kernel
theorem d_Ww_letGo_20 : decode M_Ww_letGo.2.1 20 = .ok (.bipush 13, 2) := by decide +kernel
theorem d_Ww_letGo_22 : decode M_Ww_letGo.2.1 22 = .ok (.invokevirtual 154, 3) := by decide +kernel
theorem d_Ww_letGo_25 : decode M_Ww_letGo.2.1 25 = .ok (.ifCond .eq 7, 3) := by decide +kernel
theorem d_Ww_letGo_28 : decode M_Ww_letGo.2.1 28 = .ok (.iconst 1, 1) := by decide +kernel
theorem d_Ww_letGo_29 : decode M_Ww_letGo.2.1 29 = .ok (.goto 4, 3) := by decide +kernel
theorem d_Ww_letGo_32 : decode M_Ww_letGo.2.1 32 = .ok (.iconst 0, 1) := by decide +kernel
theorem d_Ww_letGo_33 : decode M_Ww_letGo.2.1 33 = .ok (.ireturn, 1) := by decide +kernel
theorem d_Rolls_takeBack_0 : decode M_Rolls_takeBack.2.1 0 = .ok (.aload_n 0, 1) := by decide +kernel
theorem d_Rolls_takeBack_1 : decode M_Rolls_takeBack.2.1 1 = .ok (.getfield 61, 3) := by decide +kernel
theorem d_Rolls_takeBack_4 : decode M_Rolls_takeBack.2.1 4 = .ok (.ifCond .le 12, 3) := by decide +kernel
theorem d_Rolls_takeBack_7 : decode M_Rolls_takeBack.2.1 7 = .ok (.aload_n 0, 1) := by decide +kernel
theorem d_Rolls_takeBack_8 : decode M_Rolls_takeBack.2.1 8 = .ok (.getfield 61, 3) := by decide +kernel
theorem d_Rolls_takeBack_11 : decode M_Rolls_takeBack.2.1 11 = .ok (.iconst 1, 1) := by decide +kernel
theorem d_Rolls_takeBack_12 : decode M_Rolls_takeBack.2.1 12 = .ok (.isub, 1) := by decide +kernel
theorem d_Rolls_takeBack_13 : decode M_Rolls_takeBack.2.1 13 = .ok (.goto 5, 3) := by decide +kernel
theorem d_Rolls_takeBack_16 : decode M_Rolls_takeBack.2.1 16 = .ok (.bipush 59, 2) := by decide +kernel
theorem d_Rolls_takeBack_18 : decode M_Rolls_takeBack.2.1 18 = .ok (.istore_n 1, 1) := by decide +kernel
theorem d_Rolls_takeBack_19 : decode M_Rolls_takeBack.2.1 19 = .ok (.aload_n 0, 1) := by decide +kernel
theorem d_Rolls_takeBack_20 : decode M_Rolls_takeBack.2.1 20 = .ok (.getfield 58, 3) := by decide +kernel
theorem d_Rolls_takeBack_23 : decode M_Rolls_takeBack.2.1 23 = .ok (.ifCond .le 12, 3) := by decide +kernel
theorem d_Rolls_takeBack_26 : decode M_Rolls_takeBack.2.1 26 = .ok (.iload_n 1, 1) := by decide +kernel
theorem d_Rolls_takeBack_27 : decode M_Rolls_takeBack.2.1 27 = .ok (.bipush 60, 2) := by decide +kernel
theorem d_Rolls_takeBack_29 : decode M_Rolls_takeBack.2.1 29 = .ok (.invokestatic 64, 3) := by decide +kernel
theorem d_Rolls_takeBack_32 : decode M_Rolls_takeBack.2.1 32 = .ok (.ifCond .ne 5, 3) := by decide +kernel
theorem d_Rolls_takeBack_35 : decode M_Rolls_takeBack.2.1 35 = .ok (.iconst (-1), 1) := by decide +kernel
theorem d_Rolls_takeBack_36 : decode M_Rolls_takeBack.2.1 36 = .ok (.ireturn, 1) := by decide +kernel
theorem d_Rolls_takeBack_37 : decode M_Rolls_takeBack.2.1 37 = .ok (.aload_n 0, 1) := by decide +kernel
theorem d_Rolls_takeBack_38 : decode M_Rolls_takeBack.2.1 38 = .ok (.getfield 30, 3) := by decide +kernel
theorem d_Rolls_takeBack_41 : decode M_Rolls_takeBack.2.1 41 = .ok (.iload_n 1, 1) := by decide +kernel
theorem d_Rolls_takeBack_42 : decode M_Rolls_takeBack.2.1 42 = .ok (.iaload, 1) := by decide +kernel
theorem d_Rolls_takeBack_43 : decode M_Rolls_takeBack.2.1 43 = .ok (.istore_n 2, 1) := by decide +kernel
theorem d_Rolls_takeBack_44 : decode M_Rolls_takeBack.2.1 44 = .ok (.iload_n 2, 1) := by decide +kernel
theorem d_Rolls_takeBack_45 : decode M_Rolls_takeBack.2.1 45 = .ok (.aload_n 0, 1) := by decide +kernel
theorem d_Rolls_takeBack_46 : decode M_Rolls_takeBack.2.1 46 = .ok (.getfield 24, 3) := by decide +kernel
theorem d_Rolls_takeBack_49 : decode M_Rolls_takeBack.2.1 49 = .ok (.arraylength, 1) := by decide +kernel
theorem d_Rolls_takeBack_50 : decode M_Rolls_takeBack.2.1 50 = .ok (.invokestatic 64, 3) := by decide +kernel
theorem d_Rolls_takeBack_53 : decode M_Rolls_takeBack.2.1 53 = .ok (.ifCond .ne 5, 3) := by decide +kernel
theorem d_Rolls_takeBack_56 : decode M_Rolls_takeBack.2.1 56 = .ok (.iconst (-1), 1) := by decide +kernel
theorem d_Rolls_takeBack_57 : decode M_Rolls_takeBack.2.1 57 = .ok (.ireturn, 1) := by decide +kernel
theorem d_Rolls_takeBack_58 : decode M_Rolls_takeBack.2.1 58 = .ok (.aload_n 0, 1) := by decide +kernel
theorem d_Rolls_takeBack_59 : decode M_Rolls_takeBack.2.1 59 = .ok (.getfield 24, 3) := by decide +kernel
theorem d_Rolls_takeBack_62 : decode M_Rolls_takeBack.2.1 62 = .ok (.iload_n 2, 1) := by decide +kernel
theorem d_Rolls_takeBack_63 : decode M_Rolls_takeBack.2.1 63 = .ok (.iconst 1, 1) := by decide +kernel
theorem d_Rolls_takeBack_64 : decode M_Rolls_takeBack.2.1 64 = .ok (.aload_n 0, 1) := by decide +kernel
theorem d_Rolls_takeBack_65 : decode M_Rolls_takeBack.2.1 65 = .ok (.getfield 24, 3) := by decide +kernel
theorem d_Rolls_takeBack_68 : decode M_Rolls_takeBack.2.1 68 = .ok (.iload_n 2, 1) := by decide +kernel
theorem d_Rolls_takeBack_69 : decode M_Rolls_takeBack.2.1 69 = .ok (.iaload, 1) := by decide +kernel
theorem d_Rolls_takeBack_70 : decode M_Rolls_takeBack.2.1 70 = .ok (.isub, 1) := by decide +kernel
theorem d_Rolls_takeBack_71 : decode M_Rolls_takeBack.2.1 71 = .ok (.iastore, 1) := by decide +kernel
theorem d_Rolls_takeBack_72 : decode M_Rolls_takeBack.2.1 72 = .ok (.aload_n 0, 1) := by decide +kernel
theorem d_Rolls_takeBack_73 : decode M_Rolls_takeBack.2.1 73 = .ok (.iload_n 1, 1) := by decide +kernel
theorem d_Rolls_takeBack_74 : decode M_Rolls_takeBack.2.1 74 = .ok (.putfield 61, 3) := by decide +kernel
theorem d_Rolls_takeBack_77 : decode M_Rolls_takeBack.2.1 77 = .ok (.aload_n 0, 1) := by decide +kernel
theorem d_Rolls_takeBack_78 : decode M_Rolls_takeBack.2.1 78 = .ok (.dup, 1) := by decide +kernel
theorem d_Rolls_takeBack_79 : decode M_Rolls_takeBack.2.1 79 = .ok (.getfield 58, 3) := by decide +kernel
theorem d_Rolls_takeBack_82 : decode M_Rolls_takeBack.2.1 82 = .ok (.iconst 1, 1) := by decide +kernel
theorem d_Rolls_takeBack_83 : decode M_Rolls_takeBack.2.1 83 = .ok (.isub, 1) := by decide +kernel
theorem d_Rolls_takeBack_84 : decode M_Rolls_takeBack.2.1 84 = .ok (.putfield 58, 3) := by decide +kernel
theorem d_Rolls_takeBack_87 : decode M_Rolls_takeBack.2.1 87 = .ok (.bipush 10, 2) := by decide +kernel
theorem d_Rolls_takeBack_89 : decode M_Rolls_takeBack.2.1 89 = .ok (.iload_n 2, 1) := by decide +kernel
theorem d_Rolls_takeBack_90 : decode M_Rolls_takeBack.2.1 90 = .ok (.iconst 4, 1) := by decide +kernel
theorem d_Rolls_takeBack_91 : decode M_Rolls_takeBack.2.1 91 = .ok (.idiv, 1) := by decide +kernel
theorem d_Rolls_takeBack_92 : decode M_Rolls_takeBack.2.1 92 = .ok (.imul, 1) := by decide +kernel
theorem d_Rolls_takeBack_93 : decode M_Rolls_takeBack.2.1 93 = .ok (.iload_n 2, 1) := by decide +kernel
theorem d_Rolls_takeBack_94 : decode M_Rolls_takeBack.2.1 94 = .ok (.iconst 4, 1) := by decide +kernel
theorem d_Rolls_takeBack_95 : decode M_Rolls_takeBack.2.1 95 = .ok (.irem, 1) := by decide +kernel
theorem d_Rolls_takeBack_96 : decode M_Rolls_takeBack.2.1 96 = .ok (.iadd, 1) := by decide +kernel
theorem d_Rolls_takeBack_97 : decode M_Rolls_takeBack.2.1 97 = .ok (.ireturn, 1) := by decide +kernel
theorem d_Ww_undo_0 : decode M_Ww_undo.2.1 0 = .ok (.aload_n 0, 1) := by decide +kernel
theorem d_Ww_undo_1 : decode M_Ww_undo.2.1 1 = .ok (.getfield 10, 3) := by decide +kernel
theorem d_Ww_undo_4 : decode M_Ww_undo.2.1 4 = .ok (.invokevirtual 157, 3) := by decide +kernel
theorem d_Ww_undo_7 : decode M_Ww_undo.2.1 7 = .ok (.ireturn, 1) := by decide +kernel
theorem d_Court_call_0 : decode M_Court_call.2.1 0 = .ok (.iload_n 1, 1) := by decide +kernel
theorem d_Court_call_1 : decode M_Court_call.2.1 1 = .ok (.bipush 12, 2) := by decide +kernel
theorem d_Court_call_3 : decode M_Court_call.2.1 3 = .ok (.invokestatic 80, 3) := by decide +kernel
theorem d_Court_call_6 : decode M_Court_call.2.1 6 = .ok (.ifCond .eq 54, 3) := by decide +kernel
theorem d_Court_call_9 : decode M_Court_call.2.1 9 = .ok (.aload_n 0, 1) := by decide +kernel
theorem d_Court_call_10 : decode M_Court_call.2.1 10 = .ok (.getfield 18, 3) := by decide +kernel
theorem d_Court_call_13 : decode M_Court_call.2.1 13 = .ok (.bipush 15, 2) := by decide +kernel
theorem d_Court_call_15 : decode M_Court_call.2.1 15 = .ok (.aload_n 0, 1) := by decide +kernel
theorem d_Court_call_16 : decode M_Court_call.2.1 16 = .ok (.getfield 29, 3) := by decide +kernel
theorem d_Court_call_19 : decode M_Court_call.2.1 19 = .ok (.getfield 116, 3) := by decide +kernel
theorem d_Court_call_22 : decode M_Court_call.2.1 22 = .ok (.iload_n 1, 1) := by decide +kernel
theorem d_Court_call_23 : decode M_Court_call.2.1 23 = .ok (.iaload, 1) := by decide +kernel
theorem d_Court_call_24 : decode M_Court_call.2.1 24 = .ok (.invokevirtual 60, 3) := by decide +kernel
theorem d_Court_call_27 : decode M_Court_call.2.1 27 = .ok (.aload_n 0, 1) := by decide +kernel
theorem d_Court_call_28 : decode M_Court_call.2.1 28 = .ok (.getfield 18, 3) := by decide +kernel
theorem d_Court_call_31 : decode M_Court_call.2.1 31 = .ok (.bipush 16, 2) := by decide +kernel
theorem d_Court_call_33 : decode M_Court_call.2.1 33 = .ok (.aload_n 0, 1) := by decide +kernel
theorem d_Court_call_34 : decode M_Court_call.2.1 34 = .ok (.getfield 29, 3) := by decide +kernel
theorem d_Court_call_37 : decode M_Court_call.2.1 37 = .ok (.getfield 119, 3) := by decide +kernel
theorem d_Court_call_40 : decode M_Court_call.2.1 40 = .ok (.iload_n 1, 1) := by decide +kernel
theorem d_Court_call_41 : decode M_Court_call.2.1 41 = .ok (.iaload, 1) := by decide +kernel
theorem d_Court_call_42 : decode M_Court_call.2.1 42 = .ok (.invokevirtual 60, 3) := by decide +kernel
theorem d_Court_call_45 : decode M_Court_call.2.1 45 = .ok (.aload_n 0, 1) := by decide +kernel
theorem d_Court_call_46 : decode M_Court_call.2.1 46 = .ok (.getfield 18, 3) := by decide +kernel
theorem d_Court_call_49 : decode M_Court_call.2.1 49 = .ok (.bipush 17, 2) := by decide +kernel
theorem d_Court_call_51 : decode M_Court_call.2.1 51 = .ok (.aload_n 0, 1) := by decide +kernel
theorem d_Court_call_52 : decode M_Court_call.2.1 52 = .ok (.getfield 22, 3) := by decide +kernel
theorem d_Court_call_55 : decode M_Court_call.2.1 55 = .ok (.iload_n 1, 1) := by decide +kernel
theorem d_Court_call_56 : decode M_Court_call.2.1 56 = .ok (.iaload, 1) := by decide +kernel
theorem d_Court_call_57 : decode M_Court_call.2.1 57 = .ok (.invokevirtual 60, 3) := by decide +kernel
theorem d_Court_call_60 : decode M_Court_call.2.1 60 = .ok (.return_, 1) := by decide +kernel
theorem d_Court_sit_0 : decode M_Court_sit.2.1 0 = .ok (.aload_n 0, 1) := by decide +kernel
theorem d_Court_sit_1 : decode M_Court_sit.2.1 1 = .ok (.getfield 29, 3) := by decide +kernel
theorem d_Court_sit_4 : decode M_Court_sit.2.1 4 = .ok (.iload_n 1, 1) := by decide +kernel
theorem d_Court_sit_5 : decode M_Court_sit.2.1 5 = .ok (.invokevirtual 47, 3) := by decide +kernel
theorem d_Court_sit_8 : decode M_Court_sit.2.1 8 = .ok (.istore 4, 2) := by decide +kernel
theorem d_Court_sit_10 : decode M_Court_sit.2.1 10 = .ok (.aload_n 0, 1) := by decide +kernel
theorem d_Court_sit_11 : decode M_Court_sit.2.1 11 = .ok (.iload_n 2, 1) := by decide +kernel
theorem d_Court_sit_12 : decode M_Court_sit.2.1 12 = .ok (.putfield 51, 3) := by decide +kernel
theorem d_Court_sit_15 : decode M_Court_sit.2.1 15 = .ok (.aload_n 0, 1) := by decide +kernel
theorem d_Court_sit_16 : decode M_Court_sit.2.1 16 = .ok (.iload_n 3, 1) := by decide +kernel
theorem d_Court_sit_17 : decode M_Court_sit.2.1 17 = .ok (.putfield 54, 3) := by decide +kernel
theorem d_Court_sit_20 : decode M_Court_sit.2.1 20 = .ok (.aload_n 0, 1) := by decide +kernel
theorem d_Court_sit_21 : decode M_Court_sit.2.1 21 = .ok (.iload 4, 2) := by decide +kernel
theorem d_Court_sit_23 : decode M_Court_sit.2.1 23 = .ok (.iconst 5, 1) := by decide +kernel
theorem d_Court_sit_24 : decode M_Court_sit.2.1 24 = .ok (.if_icmp .lt 7, 3) := by decide +kernel
theorem d_Court_sit_27 : decode M_Court_sit.2.1 27 = .ok (.iconst 1, 1) := by decide +kernel
theorem d_Court_sit_28 : decode M_Court_sit.2.1 28 = .ok (.goto 4, 3) := by decide +kernel
theorem d_Court_sit_31 : decode M_Court_sit.2.1 31 = .ok (.iconst 0, 1) := by decide +kernel
theorem d_Court_sit_32 : decode M_Court_sit.2.1 32 = .ok (.putfield 57, 3) := by decide +kernel
theorem d_Court_sit_35 : decode M_Court_sit.2.1 35 = .ok (.aload_n 0, 1) := by decide +kernel
theorem d_Court_sit_36 : decode M_Court_sit.2.1 36 = .ok (.getfield 18, 3) := by decide +kernel
theorem d_Court_sit_39 : decode M_Court_sit.2.1 39 = .ok (.bipush 9, 2) := by decide +kernel
theorem d_Court_sit_41 : decode M_Court_sit.2.1 41 = .ok (.iload_n 1, 1) := by decide +kernel
theorem d_Court_sit_42 : decode M_Court_sit.2.1 42 = .ok (.invokevirtual 60, 3) := by decide +kernel
theorem d_Court_sit_45 : decode M_Court_sit.2.1 45 = .ok (.aload_n 0, 1) := by decide +kernel
theorem d_Court_sit_46 : decode M_Court_sit.2.1 46 = .ok (.getfield 18, 3) := by decide +kernel
theorem d_Court_sit_49 : decode M_Court_sit.2.1 49 = .ok (.bipush 10, 2) := by decide +kernel
theorem d_Court_sit_51 : decode M_Court_sit.2.1 51 = .ok (.aload_n 0, 1) := by decide +kernel
theorem d_Court_sit_52 : decode M_Court_sit.2.1 52 = .ok (.getfield 51, 3) := by decide +kernel
theorem d_Court_sit_55 : decode M_Court_sit.2.1 55 = .ok (.invokevirtual 60, 3) := by decide +kernel
theorem d_Court_sit_58 : decode M_Court_sit.2.1 58 = .ok (.aload_n 0, 1) := by decide +kernel
theorem d_Court_sit_59 : decode M_Court_sit.2.1 59 = .ok (.getfield 18, 3) := by decide +kernel
theorem d_Court_sit_62 : decode M_Court_sit.2.1 62 = .ok (.bipush 13, 2) := by decide +kernel
theorem d_Court_sit_64 : decode M_Court_sit.2.1 64 = .ok (.iload 4, 2) := by decide +kernel
theorem d_Court_sit_66 : decode M_Court_sit.2.1 66 = .ok (.invokevirtual 60, 3) := by decide +kernel
theorem d_Court_sit_69 : decode M_Court_sit.2.1 69 = .ok (.aload_n 0, 1) := by decide +kernel
theorem d_Court_sit_70 : decode M_Court_sit.2.1 70 = .ok (.getfield 18, 3) := by decide +kernel
theorem d_Court_sit_73 : decode M_Court_sit.2.1 73 = .ok (.bipush 14, 2) := by decide +kernel
theorem d_Court_sit_75 : decode M_Court_sit.2.1 75 = .ok (.aload_n 0, 1) := by decide +kernel
theorem d_Court_sit_76 : decode M_Court_sit.2.1 76 = .ok (.getfield 54, 3) := by decide +kernel
theorem d_Court_sit_79 : decode M_Court_sit.2.1 79 = .ok (.invokevirtual 60, 3) := by decide +kernel
theorem d_Court_sit_82 : decode M_Court_sit.2.1 82 = .ok (.aload_n 0, 1) := by decide +kernel
theorem d_Court_sit_83 : decode M_Court_sit.2.1 83 = .ok (.iconst 0, 1) := by decide +kernel
theorem d_Court_sit_84 : decode M_Court_sit.2.1 84 = .ok (.putfield 64, 3) := by decide +kernel
theorem d_Court_sit_87 : decode M_Court_sit.2.1 87 = .ok (.iconst 0, 1) := by decide +kernel
theorem d_Court_sit_88 : decode M_Court_sit.2.1 88 = .ok (.istore 5, 2) := by decide +kernel
theorem d_Court_sit_90 : decode M_Court_sit.2.1 90 = .ok (.iload 5, 2) := by decide +kernel
theorem d_Court_sit_92 : decode M_Court_sit.2.1 92 = .ok (.aload_n 0, 1) := by decide +kernel
theorem d_Court_sit_93 : decode M_Court_sit.2.1 93 = .ok (.getfield 29, 3) := by decide +kernel
theorem d_Court_sit_96 : decode M_Court_sit.2.1 96 = .ok (.getfield 67, 3) := by decide +kernel
theorem d_Court_sit_99 : decode M_Court_sit.2.1 99 = .ok (.if_icmp .ge 67, 3) := by decide +kernel
theorem d_Court_sit_102 : decode M_Court_sit.2.1 102 = .ok (.iload 5, 2) := by decide +kernel
theorem d_Court_sit_104 : decode M_Court_sit.2.1 104 = .ok (.bipush 12, 2) := by decide +kernel
theorem d_Court_sit_106 : decode M_Court_sit.2.1 106 = .ok (.if_icmp .ge 60, 3) := by decide +kernel
theorem d_Court_sit_109 : decode M_Court_sit.2.1 109 = .ok (.aload_n 0, 1) := by decide +kernel
theorem d_Court_sit_110 : decode M_Court_sit.2.1 110 = .ok (.getfield 29, 3) := by decide +kernel
theorem d_Court_sit_113 : decode M_Court_sit.2.1 113 = .ok (.getfield 70, 3) := by decide +kernel
theorem d_Court_sit_116 : decode M_Court_sit.2.1 116 = .ok (.iload 5, 2) := by decide +kernel
theorem d_Court_sit_118 : decode M_Court_sit.2.1 118 = .ok (.iaload, 1) := by decide +kernel
theorem d_Court_sit_119 : decode M_Court_sit.2.1 119 = .ok (.aload_n 0, 1) := by decide +kernel
theorem d_Court_sit_120 : decode M_Court_sit.2.1 120 = .ok (.getfield 51, 3) := by decide +kernel
theorem d_Court_sit_123 : decode M_Court_sit.2.1 123 = .ok (.if_icmp .ne 37, 3) := by decide +kernel
theorem d_Court_sit_126 : decode M_Court_sit.2.1 126 = .ok (.aload_n 0, 1) := by decide +kernel
theorem d_Court_sit_127 : decode M_Court_sit.2.1 127 = .ok (.iload 5, 2) := by decide +kernel
theorem d_Court_sit_129 : decode M_Court_sit.2.1 129 = .ok (.invokevirtual 73, 3) := by decide +kernel
theorem d_Court_sit_132 : decode M_Court_sit.2.1 132 = .ok (.aload_n 0, 1) := by decide +kernel
theorem d_Court_sit_133 : decode M_Court_sit.2.1 133 = .ok (.getfield 22, 3) := by decide +kernel
theorem d_Court_sit_136 : decode M_Court_sit.2.1 136 = .ok (.iload 5, 2) := by decide +kernel
theorem d_Court_sit_138 : decode M_Court_sit.2.1 138 = .ok (.aload_n 0, 1) := by decide +kernel
theorem d_Court_sit_139 : decode M_Court_sit.2.1 139 = .ok (.iconst 1, 1) := by decide +kernel
theorem d_Court_sit_140 : decode M_Court_sit.2.1 140 = .ok (.invokevirtual 77, 3) := by decide +kernel
theorem d_Court_sit_143 : decode M_Court_sit.2.1 143 = .ok (.iastore, 1) := by decide +kernel
theorem d_Court_sit_144 : decode M_Court_sit.2.1 144 = .ok (.aload_n 0, 1) := by decide +kernel
theorem d_Court_sit_145 : decode M_Court_sit.2.1 145 = .ok (.dup, 1) := by decide +kernel
theorem d_Court_sit_146 : decode M_Court_sit.2.1 146 = .ok (.getfield 64, 3) := by decide +kernel
theorem d_Court_sit_149 : decode M_Court_sit.2.1 149 = .ok (.aload_n 0, 1) := by decide +kernel
theorem d_Court_sit_150 : decode M_Court_sit.2.1 150 = .ok (.getfield 22, 3) := by decide +kernel
theorem d_Court_sit_153 : decode M_Court_sit.2.1 153 = .ok (.iload 5, 2) := by decide +kernel
theorem d_Court_sit_155 : decode M_Court_sit.2.1 155 = .ok (.iaload, 1) := by decide +kernel
theorem d_Court_sit_156 : decode M_Court_sit.2.1 156 = .ok (.iadd, 1) := by decide +kernel
theorem d_Court_sit_157 : decode M_Court_sit.2.1 157 = .ok (.putfield 64, 3) := by decide +kernel
theorem d_Court_sit_160 : decode M_Court_sit.2.1 160 = .ok (.iinc 5 1, 3) := by decide +kernel
theorem d_Court_sit_163 : decode M_Court_sit.2.1 163 = .ok (.goto (-73), 3) := by decide +kernel
theorem d_Court_sit_166 : decode M_Court_sit.2.1 166 = .ok (.aload_n 0, 1) := by decide +kernel
theorem d_Court_sit_167 : decode M_Court_sit.2.1 167 = .ok (.getfield 18, 3) := by decide +kernel
theorem d_Court_sit_170 : decode M_Court_sit.2.1 170 = .ok (.bipush 19, 2) := by decide +kernel
theorem d_Court_sit_172 : decode M_Court_sit.2.1 172 = .ok (.aload_n 0, 1) := by decide +kernel
theorem d_Court_sit_173 : decode M_Court_sit.2.1 173 = .ok (.getfield 64, 3) := by decide +kernel
theorem d_Court_sit_176 : decode M_Court_sit.2.1 176 = .ok (.invokevirtual 60, 3) := by decide +kernel
theorem d_Court_sit_179 : decode M_Court_sit.2.1 179 = .ok (.return_, 1) := by decide +kernel
theorem d_Court_sitAsItIs_0 : decode M_Court_sitAsItIs.2.1 0 = .ok (.aload_n 0, 1) := by decide +kernel
theorem d_Court_sitAsItIs_1 : decode M_Court_sitAsItIs.2.1 1 = .ok (.iload_n 1, 1) := by decide +kernel
theorem d_Court_sitAsItIs_2 : decode M_Court_sitAsItIs.2.1 2 = .ok (.iload_n 2, 1) := by decide +kernel
theorem d_Court_sitAsItIs_3 : decode M_Court_sitAsItIs.2.1 3 = .ok (.aload_n 0, 1) := by decide +kernel
theorem d_Court_sitAsItIs_4 : decode M_Court_sitAsItIs.2.1 4 = .ok (.getfield 29, 3) := by decide +kernel
theorem d_Court_sitAsItIs_7 : decode M_Court_sitAsItIs.2.1 7 = .ok (.iload_n 1, 1) := by decide +kernel
theorem d_Court_sitAsItIs_8 : decode M_Court_sitAsItIs.2.1 8 = .ok (.iload_n 2, 1) := by decide +kernel
theorem d_Court_sitAsItIs_9 : decode M_Court_sitAsItIs.2.1 9 = .ok (.invokevirtual 37, 3) := by decide +kernel
theorem d_Court_sitAsItIs_12 : decode M_Court_sitAsItIs.2.1 12 = .ok (.invokevirtual 43, 3) := by decide +kernel
theorem d_Court_sitAsItIs_15 : decode M_Court_sitAsItIs.2.1 15 = .ok (.return_, 1) := by decide +kernel
theorem d_Ww_of_0 : decode M_Ww_of.2.1 0 = .ok (.iload_n 1, 1) := by decide +kernel
theorem d_Ww_of_1 : decode M_Ww_of.2.1 1 = .ok (.bipush 30, 2) := by decide +kernel
theorem d_Ww_of_3 : decode M_Ww_of.2.1 3 = .ok (.invokestatic 80, 3) := by decide +kernel
theorem d_Ww_of_6 : decode M_Ww_of.2.1 6 = .ok (.ifCond .eq 11, 3) := by decide +kernel
theorem d_Ww_of_9 : decode M_Ww_of.2.1 9 = .ok (.iload_n 2, 1) := by decide +kernel
theorem d_Ww_of_10 : decode M_Ww_of.2.1 10 = .ok (.iconst 4, 1) := by decide +kernel
theorem d_Ww_of_11 : decode M_Ww_of.2.1 11 = .ok (.invokestatic 80, 3) := by decide +kernel
theorem d_Ww_of_14 : decode M_Ww_of.2.1 14 = .ok (.ifCond .ne 5, 3) := by decide +kernel
theorem d_Ww_of_17 : decode M_Ww_of.2.1 17 = .ok (.iconst (-1), 1) := by decide +kernel
theorem d_Ww_of_18 : decode M_Ww_of.2.1 18 = .ok (.ireturn, 1) := by decide +kernel
theorem d_Ww_of_19 : decode M_Ww_of.2.1 19 = .ok (.iload_n 3, 1) := by decide +kernel
theorem d_Ww_of_20 : decode M_Ww_of.2.1 20 = .ok (.tableswitch 65 0 2 #[28, 38, 48], 28) := by decide +kernel
theorem d_Ww_of_48 : decode M_Ww_of.2.1 48 = .ok (.aload_n 0, 1) := by decide +kernel
theorem d_Ww_of_49 : decode M_Ww_of.2.1 49 = .ok (.getfield 10, 3) := by decide +kernel
theorem d_Ww_of_52 : decode M_Ww_of.2.1 52 = .ok (.getfield 88, 3) := by decide +kernel
theorem d_Ww_of_55 : decode M_Ww_of.2.1 55 = .ok (.iload_n 1, 1) := by decide +kernel
theorem d_Ww_of_56 : decode M_Ww_of.2.1 56 = .ok (.iaload, 1) := by decide +kernel
theorem d_Ww_of_57 : decode M_Ww_of.2.1 57 = .ok (.ireturn, 1) := by decide +kernel
theorem d_Ww_of_58 : decode M_Ww_of.2.1 58 = .ok (.aload_n 0, 1) := by decide +kernel
theorem d_Ww_of_59 : decode M_Ww_of.2.1 59 = .ok (.getfield 10, 3) := by decide +kernel
theorem d_Ww_of_62 : decode M_Ww_of.2.1 62 = .ok (.iload_n 1, 1) := by decide +kernel
theorem d_Ww_of_63 : decode M_Ww_of.2.1 63 = .ok (.iload_n 2, 1) := by decide +kernel
theorem d_Ww_of_64 : decode M_Ww_of.2.1 64 = .ok (.invokevirtual 160, 3) := by decide +kernel
theorem d_Ww_of_67 : decode M_Ww_of.2.1 67 = .ok (.ireturn, 1) := by decide +kernel
theorem d_Ww_of_68 : decode M_Ww_of.2.1 68 = .ok (.aload_n 0, 1) := by decide +kernel
theorem d_Ww_of_69 : decode M_Ww_of.2.1 69 = .ok (.getfield 53, 3) := by decide +kernel
theorem d_Ww_of_72 : decode M_Ww_of.2.1 72 = .ok (.iload_n 1, 1) := by decide +kernel
theorem d_Ww_of_73 : decode M_Ww_of.2.1 73 = .ok (.iload_n 2, 1) := by decide +kernel
theorem d_Ww_of_74 : decode M_Ww_of.2.1 74 = .ok (.invokevirtual 163, 3) := by decide +kernel
theorem d_Ww_of_77 : decode M_Ww_of.2.1 77 = .ok (.aload_n 0, 1) := by decide +kernel
theorem d_Ww_of_78 : decode M_Ww_of.2.1 78 = .ok (.getfield 53, 3) := by decide +kernel
theorem d_Ww_of_81 : decode M_Ww_of.2.1 81 = .ok (.getfield 167, 3) := by decide +kernel
theorem d_Ww_of_84 : decode M_Ww_of.2.1 84 = .ok (.ireturn, 1) := by decide +kernel
theorem d_Ww_of_85 : decode M_Ww_of.2.1 85 = .ok (.iconst (-1), 1) := by decide +kernel
theorem d_Ww_of_86 : decode M_Ww_of.2.1 86 = .ok (.ireturn, 1) := by decide +kernel
theorem d_Rolls_homeOf_0 : decode M_Rolls_homeOf.2.1 0 = .ok (.iload_n 1, 1) := by decide +kernel
theorem d_Rolls_homeOf_1 : decode M_Rolls_homeOf.2.1 1 = .ok (.bipush 12, 2) := by decide +kernel
theorem d_Rolls_homeOf_3 : decode M_Rolls_homeOf.2.1 3 = .ok (.invokestatic 64, 3) := by decide +kernel
theorem d_Rolls_homeOf_6 : decode M_Rolls_homeOf.2.1 6 = .ok (.ifCond .eq 12, 3) := by decide +kernel
theorem d_Rolls_homeOf_9 : decode M_Rolls_homeOf.2.1 9 = .ok (.aload_n 0, 1) := by decide +kernel
theorem d_Rolls_homeOf_10 : decode M_Rolls_homeOf.2.1 10 = .ok (.getfield 9, 3) := by decide +kernel
theorem d_Rolls_homeOf_13 : decode M_Rolls_homeOf.2.1 13 = .ok (.iload_n 1, 1) := by decide +kernel
theorem d_Rolls_homeOf_14 : decode M_Rolls_homeOf.2.1 14 = .ok (.iaload, 1) := by decide +kernel
theorem d_Rolls_homeOf_15 : decode M_Rolls_homeOf.2.1 15 = .ok (.goto 4, 3) := by decide +kernel
theorem d_Rolls_homeOf_18 : decode M_Rolls_homeOf.2.1 18 = .ok (.iconst 0, 1) := by decide +kernel
theorem d_Rolls_homeOf_19 : decode M_Rolls_homeOf.2.1 19 = .ok (.ireturn, 1) := by decide +kernel
theorem d_Court_actOf_0 : decode M_Court_actOf.2.1 0 = .ok (.iload_n 1, 1) := by decide +kernel
theorem d_Court_actOf_1 : decode M_Court_actOf.2.1 1 = .ok (.bipush 12, 2) := by decide +kernel
theorem d_Court_actOf_3 : decode M_Court_actOf.2.1 3 = .ok (.invokestatic 80, 3) := by decide +kernel
theorem d_Court_actOf_6 : decode M_Court_actOf.2.1 6 = .ok (.ifCond .eq 12, 3) := by decide +kernel
theorem d_Court_actOf_9 : decode M_Court_actOf.2.1 9 = .ok (.aload_n 0, 1) := by decide +kernel
theorem d_Court_actOf_10 : decode M_Court_actOf.2.1 10 = .ok (.getfield 22, 3) := by decide +kernel
theorem d_Court_actOf_13 : decode M_Court_actOf.2.1 13 = .ok (.iload_n 1, 1) := by decide +kernel
theorem d_Court_actOf_14 : decode M_Court_actOf.2.1 14 = .ok (.iaload, 1) := by decide +kernel
theorem d_Court_actOf_15 : decode M_Court_actOf.2.1 15 = .ok (.goto 4, 3) := by decide +kernel
theorem d_Court_actOf_18 : decode M_Court_actOf.2.1 18 = .ok (.iconst 0, 1) := by decide +kernel
theorem d_Court_actOf_19 : decode M_Court_actOf.2.1 19 = .ok (.ireturn, 1) := by decide +kernel
theorem d_Ww_between_0 : decode M_Ww_between.2.1 0 = .ok (.iload_n 1, 1) := by decide +kernel
theorem d_Ww_between_1 : decode M_Ww_between.2.1 1 = .ok (.iload_n 2, 1) := by decide +kernel
theorem d_Ww_between_2 : decode M_Ww_between.2.1 2 = .ok (.iload_n 0, 1) := by decide +kernel
theorem d_Ww_between_3 : decode M_Ww_between.2.1 3 = .ok (.invokestatic 266, 3) := by decide +kernel
theorem d_Ww_between_6 : decode M_Ww_between.2.1 6 = .ok (.invokestatic 206, 3) := by decide +kernel
theorem d_Ww_between_9 : decode M_Ww_between.2.1 9 = .ok (.ireturn, 1) := by decide +kernel
theorem d_Court_fineOf_0 : decode M_Court_fineOf.2.1 0 = .ok (.aload_n 0, 1) := by decide +kernel
theorem d_Court_fineOf_1 : decode M_Court_fineOf.2.1 1 = .ok (.iload_n 1, 1) := by decide +kernel
theorem d_Court_fineOf_2 : decode M_Court_fineOf.2.1 2 = .ok (.invokevirtual 73, 3) := by decide +kernel
theorem d_Court_fineOf_5 : decode M_Court_fineOf.2.1 5 = .ok (.aload_n 0, 1) := by decide +kernel
theorem d_Court_fineOf_6 : decode M_Court_fineOf.2.1 6 = .ok (.iconst 4, 1) := by decide +kernel
theorem d_Court_fineOf_7 : decode M_Court_fineOf.2.1 7 = .ok (.invokevirtual 77, 3) := by decide +kernel
theorem d_Court_fineOf_10 : decode M_Court_fineOf.2.1 10 = .ok (.iconst 1, 1) := by decide +kernel
theorem d_Court_fineOf_11 : decode M_Court_fineOf.2.1 11 = .ok (.if_icmp .ne 7, 3) := by decide +kernel
theorem d_Court_fineOf_14 : decode M_Court_fineOf.2.1 14 = .ok (.iconst 0, 1) := by decide +kernel
theorem d_Court_fineOf_15 : decode M_Court_fineOf.2.1 15 = .ok (.goto 15, 3) := by decide +kernel
theorem d_Court_fineOf_18 : decode M_Court_fineOf.2.1 18 = .ok (.aload_n 0, 1) := by decide +kernel
theorem d_Court_fineOf_19 : decode M_Court_fineOf.2.1 19 = .ok (.iconst 3, 1) := by decide +kernel
theorem d_Court_fineOf_20 : decode M_Court_fineOf.2.1 20 = .ok (.invokevirtual 77, 3) := by decide +kernel
theorem d_Court_fineOf_23 : decode M_Court_fineOf.2.1 23 = .ok (.iconst 0, 1) := by decide +kernel
theorem d_Court_fineOf_24 : decode M_Court_fineOf.2.1 24 = .ok (.sipush 999, 3) := by decide +kernel
theorem d_Court_fineOf_27 : decode M_Court_fineOf.2.1 27 = .ok (.invokestatic 84, 3) := by decide +kernel
theorem d_Court_fineOf_30 : decode M_Court_fineOf.2.1 30 = .ok (.ireturn, 1) := by decide +kernel
theorem d_Court_appealOf_0 : decode M_Court_appealOf.2.1 0 = .ok (.aload_n 0, 1) := by decide +kernel
theorem d_Court_appealOf_1 : decode M_Court_appealOf.2.1 1 = .ok (.iload_n 1, 1) := by decide +kernel
theorem d_Court_appealOf_2 : decode M_Court_appealOf.2.1 2 = .ok (.invokevirtual 73, 3) := by decide +kernel
theorem d_Court_appealOf_5 : decode M_Court_appealOf.2.1 5 = .ok (.aload_n 0, 1) := by decide +kernel
theorem d_Court_appealOf_6 : decode M_Court_appealOf.2.1 6 = .ok (.iconst 4, 1) := by decide +kernel
theorem d_Court_appealOf_7 : decode M_Court_appealOf.2.1 7 = .ok (.invokevirtual 77, 3) := by decide +kernel
theorem d_Court_appealOf_10 : decode M_Court_appealOf.2.1 10 = .ok (.ireturn, 1) := by decide +kernel
theorem d_Ww_on_0 : decode M_Ww_on.2.1 0 = .ok (.iload_n 1, 1) := by decide +kernel
theorem d_Ww_on_1 : decode M_Ww_on.2.1 1 = .ok (.aload_n 0, 1) := by decide +kernel
theorem d_Ww_on_2 : decode M_Ww_on.2.1 2 = .ok (.getfield 10, 3) := by decide +kernel
theorem d_Ww_on_5 : decode M_Ww_on.2.1 5 = .ok (.getfield 170, 3) := by decide +kernel
theorem d_Ww_on_8 : decode M_Ww_on.2.1 8 = .ok (.invokestatic 80, 3) := by decide +kernel
theorem d_Ww_on_11 : decode M_Ww_on.2.1 11 = .ok (.ifCond .eq 12, 3) := by decide +kernel
theorem d_Ww_on_14 : decode M_Ww_on.2.1 14 = .ok (.iload_n 2, 1) := by decide +kernel
theorem d_Ww_on_15 : decode M_Ww_on.2.1 15 = .ok (.bipush 30, 2) := by decide +kernel
theorem d_Ww_on_17 : decode M_Ww_on.2.1 17 = .ok (.invokestatic 80, 3) := by decide +kernel
theorem d_Ww_on_20 : decode M_Ww_on.2.1 20 = .ok (.ifCond .ne 5, 3) := by decide +kernel
theorem d_Ww_on_23 : decode M_Ww_on.2.1 23 = .ok (.iconst (-1), 1) := by decide +kernel
theorem d_Ww_on_24 : decode M_Ww_on.2.1 24 = .ok (.ireturn, 1) := by decide +kernel
theorem d_Ww_on_25 : decode M_Ww_on.2.1 25 = .ok (.aload_n 0, 1) := by decide +kernel
theorem d_Ww_on_26 : decode M_Ww_on.2.1 26 = .ok (.getfield 53, 3) := by decide +kernel
theorem d_Ww_on_29 : decode M_Ww_on.2.1 29 = .ok (.iload_n 2, 1) := by decide +kernel
theorem d_Ww_on_30 : decode M_Ww_on.2.1 30 = .ok (.aload_n 0, 1) := by decide +kernel
theorem d_Ww_on_31 : decode M_Ww_on.2.1 31 = .ok (.getfield 10, 3) := by decide +kernel
theorem d_Ww_on_34 : decode M_Ww_on.2.1 34 = .ok (.iload_n 1, 1) := by decide +kernel
theorem d_Ww_on_35 : decode M_Ww_on.2.1 35 = .ok (.invokevirtual 171, 3) := by decide +kernel
theorem d_Ww_on_38 : decode M_Ww_on.2.1 38 = .ok (.invokevirtual 163, 3) := by decide +kernel
theorem d_Ww_on_41 : decode M_Ww_on.2.1 41 = .ok (.iload_n 3, 1) := by decide +kernel
theorem d_Ww_on_42 : decode M_Ww_on.2.1 42 = .ok (.tableswitch 53 0 2 #[26, 35, 44], 26) := by decide +kernel
theorem d_Ww_on_68 : decode M_Ww_on.2.1 68 = .ok (.aload_n 0, 1) := by decide +kernel
theorem d_Ww_on_69 : decode M_Ww_on.2.1 69 = .ok (.getfield 53, 3) := by decide +kernel
theorem d_Ww_on_72 : decode M_Ww_on.2.1 72 = .ok (.iload_n 1, 1) := by decide +kernel
theorem d_Ww_on_73 : decode M_Ww_on.2.1 73 = .ok (.invokevirtual 175, 3) := by decide +kernel
theorem d_Ww_on_76 : decode M_Ww_on.2.1 76 = .ok (.ireturn, 1) := by decide +kernel
theorem d_Ww_on_77 : decode M_Ww_on.2.1 77 = .ok (.aload_n 0, 1) := by decide +kernel
theorem d_Ww_on_78 : decode M_Ww_on.2.1 78 = .ok (.getfield 53, 3) := by decide +kernel
theorem d_Ww_on_81 : decode M_Ww_on.2.1 81 = .ok (.iload_n 1, 1) := by decide +kernel
theorem d_Ww_on_82 : decode M_Ww_on.2.1 82 = .ok (.invokevirtual 178, 3) := by decide +kernel
theorem d_Ww_on_85 : decode M_Ww_on.2.1 85 = .ok (.ireturn, 1) := by decide +kernel
theorem d_Ww_on_86 : decode M_Ww_on.2.1 86 = .ok (.aload_n 0, 1) := by decide +kernel
theorem d_Ww_on_87 : decode M_Ww_on.2.1 87 = .ok (.getfield 53, 3) := by decide +kernel
theorem d_Ww_on_90 : decode M_Ww_on.2.1 90 = .ok (.iload_n 1, 1) := by decide +kernel
theorem d_Ww_on_91 : decode M_Ww_on.2.1 91 = .ok (.invokevirtual 181, 3) := by decide +kernel
theorem d_Ww_on_94 : decode M_Ww_on.2.1 94 = .ok (.ireturn, 1) := by decide +kernel
theorem d_Ww_on_95 : decode M_Ww_on.2.1 95 = .ok (.iconst (-1), 1) := by decide +kernel
theorem d_Ww_on_96 : decode M_Ww_on.2.1 96 = .ok (.ireturn, 1) := by decide +kernel
theorem d_Court_gainOf_0 : decode M_Court_gainOf.2.1 0 = .ok (.aload_n 0, 1) := by decide +kernel
theorem d_Court_gainOf_1 : decode M_Court_gainOf.2.1 1 = .ok (.iload_n 1, 1) := by decide +kernel
theorem d_Court_gainOf_2 : decode M_Court_gainOf.2.1 2 = .ok (.invokevirtual 88, 3) := by decide +kernel
theorem d_Court_gainOf_5 : decode M_Court_gainOf.2.1 5 = .ok (.istore_n 3, 1) := by decide +kernel
theorem d_Court_gainOf_6 : decode M_Court_gainOf.2.1 6 = .ok (.aload_n 0, 1) := by decide +kernel
theorem d_Court_gainOf_7 : decode M_Court_gainOf.2.1 7 = .ok (.getfield 18, 3) := by decide +kernel
theorem d_Court_gainOf_10 : decode M_Court_gainOf.2.1 10 = .ok (.bipush 18, 2) := by decide +kernel
theorem d_Court_gainOf_12 : decode M_Court_gainOf.2.1 12 = .ok (.iload_n 2, 1) := by decide +kernel
theorem d_Court_gainOf_13 : decode M_Court_gainOf.2.1 13 = .ok (.ifCond .eq 10, 3) := by decide +kernel
theorem d_Court_gainOf_16 : decode M_Court_gainOf.2.1 16 = .ok (.aload_n 0, 1) := by decide +kernel
theorem d_Court_gainOf_17 : decode M_Court_gainOf.2.1 17 = .ok (.getfield 54, 3) := by decide +kernel
theorem d_Court_gainOf_20 : decode M_Court_gainOf.2.1 20 = .ok (.goto 7, 3) := by decide +kernel
theorem d_Court_gainOf_23 : decode M_Court_gainOf.2.1 23 = .ok (.aload_n 0, 1) := by decide +kernel
theorem d_Court_gainOf_24 : decode M_Court_gainOf.2.1 24 = .ok (.getfield 57, 3) := by decide +kernel
theorem d_Court_gainOf_27 : decode M_Court_gainOf.2.1 27 = .ok (.invokevirtual 60, 3) := by decide +kernel
theorem d_Court_gainOf_30 : decode M_Court_gainOf.2.1 30 = .ok (.aload_n 0, 1) := by decide +kernel
theorem d_Court_gainOf_31 : decode M_Court_gainOf.2.1 31 = .ok (.iconst 2, 1) := by decide +kernel
theorem d_Court_gainOf_32 : decode M_Court_gainOf.2.1 32 = .ok (.invokevirtual 77, 3) := by decide +kernel
theorem d_Court_gainOf_35 : decode M_Court_gainOf.2.1 35 = .ok (.sipush (-9999), 3) := by decide +kernel
theorem d_Court_gainOf_38 : decode M_Court_gainOf.2.1 38 = .ok (.sipush 9999, 3) := by decide +kernel
theorem d_Court_gainOf_41 : decode M_Court_gainOf.2.1 41 = .ok (.invokestatic 84, 3) := by decide +kernel
theorem d_Court_gainOf_44 : decode M_Court_gainOf.2.1 44 = .ok (.iload_n 3, 1) := by decide +kernel
theorem d_Court_gainOf_45 : decode M_Court_gainOf.2.1 45 = .ok (.isub, 1) := by decide +kernel
theorem d_Court_gainOf_46 : decode M_Court_gainOf.2.1 46 = .ok (.ireturn, 1) := by decide +kernel
theorem d_Ww_gain_0 : decode M_Ww_gain.2.1 0 = .ok (.iload_n 1, 1) := by decide +kernel
theorem d_Ww_gain_1 : decode M_Ww_gain.2.1 1 = .ok (.aload_n 0, 1) := by decide +kernel
theorem d_Ww_gain_2 : decode M_Ww_gain.2.1 2 = .ok (.getfield 10, 3) := by decide +kernel
theorem d_Ww_gain_5 : decode M_Ww_gain.2.1 5 = .ok (.getfield 170, 3) := by decide +kernel
theorem d_Ww_gain_8 : decode M_Ww_gain.2.1 8 = .ok (.invokestatic 80, 3) := by decide +kernel
theorem d_Ww_gain_11 : decode M_Ww_gain.2.1 11 = .ok (.ifCond .eq 12, 3) := by decide +kernel
theorem d_Ww_gain_14 : decode M_Ww_gain.2.1 14 = .ok (.iload_n 2, 1) := by decide +kernel
theorem d_Ww_gain_15 : decode M_Ww_gain.2.1 15 = .ok (.bipush 30, 2) := by decide +kernel
theorem d_Ww_gain_17 : decode M_Ww_gain.2.1 17 = .ok (.invokestatic 80, 3) := by decide +kernel
theorem d_Ww_gain_20 : decode M_Ww_gain.2.1 20 = .ok (.ifCond .ne 6, 3) := by decide +kernel
theorem d_Ww_gain_23 : decode M_Ww_gain.2.1 23 = .ok (.ldc 184, 2) := by decide +kernel
theorem d_Ww_gain_25 : decode M_Ww_gain.2.1 25 = .ok (.ireturn, 1) := by decide +kernel
theorem d_Ww_gain_26 : decode M_Ww_gain.2.1 26 = .ok (.aload_n 0, 1) := by decide +kernel
theorem d_Ww_gain_27 : decode M_Ww_gain.2.1 27 = .ok (.getfield 53, 3) := by decide +kernel
theorem d_Ww_gain_30 : decode M_Ww_gain.2.1 30 = .ok (.iload_n 2, 1) := by decide +kernel
theorem d_Ww_gain_31 : decode M_Ww_gain.2.1 31 = .ok (.aload_n 0, 1) := by decide +kernel
theorem d_Ww_gain_32 : decode M_Ww_gain.2.1 32 = .ok (.getfield 10, 3) := by decide +kernel
theorem d_Ww_gain_35 : decode M_Ww_gain.2.1 35 = .ok (.iload_n 1, 1) := by decide +kernel
theorem d_Ww_gain_36 : decode M_Ww_gain.2.1 36 = .ok (.invokevirtual 171, 3) := by decide +kernel
theorem d_Ww_gain_39 : decode M_Ww_gain.2.1 39 = .ok (.invokevirtual 163, 3) := by decide +kernel
theorem d_Ww_gain_42 : decode M_Ww_gain.2.1 42 = .ok (.aload_n 0, 1) := by decide +kernel
theorem d_Ww_gain_43 : decode M_Ww_gain.2.1 43 = .ok (.getfield 53, 3) := by decide +kernel
theorem d_Ww_gain_46 : decode M_Ww_gain.2.1 46 = .ok (.iload_n 1, 1) := by decide +kernel
theorem d_Ww_gain_47 : decode M_Ww_gain.2.1 47 = .ok (.iload_n 3, 1) := by decide +kernel
theorem d_Ww_gain_48 : decode M_Ww_gain.2.1 48 = .ok (.invokevirtual 185, 3) := by decide +kernel
theorem d_Ww_gain_51 : decode M_Ww_gain.2.1 51 = .ok (.ireturn, 1) := by decide +kernel
theorem d_Court_addGains_0 : decode M_Court_addGains.2.1 0 = .ok (.iconst 0, 1) := by decide +kernel
theorem d_Court_addGains_1 : decode M_Court_addGains.2.1 1 = .ok (.istore_n 3, 1) := by decide +kernel
theorem d_Court_addGains_2 : decode M_Court_addGains.2.1 2 = .ok (.iconst 0, 1) := by decide +kernel
theorem d_Court_addGains_3 : decode M_Court_addGains.2.1 3 = .ok (.istore 4, 2) := by decide +kernel
theorem d_Court_addGains_5 : decode M_Court_addGains.2.1 5 = .ok (.iload 4, 2) := by decide +kernel
theorem d_Court_addGains_7 : decode M_Court_addGains.2.1 7 = .ok (.aload_n 0, 1) := by decide +kernel
theorem d_Court_addGains_8 : decode M_Court_addGains.2.1 8 = .ok (.getfield 29, 3) := by decide +kernel
theorem d_Court_addGains_11 : decode M_Court_addGains.2.1 11 = .ok (.getfield 67, 3) := by decide +kernel
theorem d_Court_addGains_14 : decode M_Court_addGains.2.1 14 = .ok (.if_icmp .ge 70, 3) := by decide +kernel
theorem d_Court_addGains_17 : decode M_Court_addGains.2.1 17 = .ok (.iload 4, 2) := by decide +kernel
theorem d_Court_addGains_19 : decode M_Court_addGains.2.1 19 = .ok (.bipush 12, 2) := by decide +kernel
theorem d_Court_addGains_21 : decode M_Court_addGains.2.1 21 = .ok (.if_icmp .ge 63, 3) := by decide +kernel
theorem d_Court_addGains_24 : decode M_Court_addGains.2.1 24 = .ok (.aload_n 0, 1) := by decide +kernel
theorem d_Court_addGains_25 : decode M_Court_addGains.2.1 25 = .ok (.getfield 29, 3) := by decide +kernel
theorem d_Court_addGains_28 : decode M_Court_addGains.2.1 28 = .ok (.getfield 70, 3) := by decide +kernel
theorem d_Court_addGains_31 : decode M_Court_addGains.2.1 31 = .ok (.iload 4, 2) := by decide +kernel
theorem d_Court_addGains_33 : decode M_Court_addGains.2.1 33 = .ok (.iaload, 1) := by decide +kernel
theorem d_Court_addGains_34 : decode M_Court_addGains.2.1 34 = .ok (.aload_n 0, 1) := by decide +kernel
theorem d_Court_addGains_35 : decode M_Court_addGains.2.1 35 = .ok (.getfield 51, 3) := by decide +kernel
theorem d_Court_addGains_38 : decode M_Court_addGains.2.1 38 = .ok (.if_icmp .ne 40, 3) := by decide +kernel
theorem d_Court_addGains_41 : decode M_Court_addGains.2.1 41 = .ok (.iload_n 1, 1) := by decide +kernel
theorem d_Court_addGains_42 : decode M_Court_addGains.2.1 42 = .ok (.iconst (-1), 1) := by decide +kernel
theorem d_Court_addGains_43 : decode M_Court_addGains.2.1 43 = .ok (.if_icmp .eq 9, 3) := by decide +kernel
theorem d_Court_addGains_46 : decode M_Court_addGains.2.1 46 = .ok (.iload_n 1, 1) := by decide +kernel
theorem d_Court_addGains_47 : decode M_Court_addGains.2.1 47 = .ok (.iload 4, 2) := by decide +kernel
theorem d_Court_addGains_49 : decode M_Court_addGains.2.1 49 = .ok (.if_icmp .ne 29, 3) := by decide +kernel
theorem d_Court_addGains_52 : decode M_Court_addGains.2.1 52 = .ok (.aload_n 0, 1) := by decide +kernel
theorem d_Court_addGains_53 : decode M_Court_addGains.2.1 53 = .ok (.iload 4, 2) := by decide +kernel
theorem d_Court_addGains_55 : decode M_Court_addGains.2.1 55 = .ok (.iload_n 2, 1) := by decide +kernel
theorem d_Court_addGains_56 : decode M_Court_addGains.2.1 56 = .ok (.invokevirtual 94, 3) := by decide +kernel
theorem d_Court_addGains_59 : decode M_Court_addGains.2.1 59 = .ok (.istore 5, 2) := by decide +kernel
theorem d_Court_addGains_61 : decode M_Court_addGains.2.1 61 = .ok (.aload_n 0, 1) := by decide +kernel
theorem d_Court_addGains_62 : decode M_Court_addGains.2.1 62 = .ok (.getfield 26, 3) := by decide +kernel
theorem d_Court_addGains_65 : decode M_Court_addGains.2.1 65 = .ok (.iload 4, 2) := by decide +kernel
theorem d_Court_addGains_67 : decode M_Court_addGains.2.1 67 = .ok (.dup2, 1) := by decide +kernel
theorem d_Court_addGains_68 : decode M_Court_addGains.2.1 68 = .ok (.iaload, 1) := by decide +kernel
theorem d_Court_addGains_69 : decode M_Court_addGains.2.1 69 = .ok (.iload 5, 2) := by decide +kernel
theorem d_Court_addGains_71 : decode M_Court_addGains.2.1 71 = .ok (.iadd, 1) := by decide +kernel
theorem d_Court_addGains_72 : decode M_Court_addGains.2.1 72 = .ok (.iastore, 1) := by decide +kernel
theorem d_Court_addGains_73 : decode M_Court_addGains.2.1 73 = .ok (.iload_n 3, 1) := by decide +kernel
theorem d_Court_addGains_74 : decode M_Court_addGains.2.1 74 = .ok (.iload 5, 2) := by decide +kernel
theorem d_Court_addGains_76 : decode M_Court_addGains.2.1 76 = .ok (.iadd, 1) := by decide +kernel
theorem d_Court_addGains_77 : decode M_Court_addGains.2.1 77 = .ok (.istore_n 3, 1) := by decide +kernel
theorem d_Court_addGains_78 : decode M_Court_addGains.2.1 78 = .ok (.iinc 4 1, 3) := by decide +kernel
theorem d_Court_addGains_81 : decode M_Court_addGains.2.1 81 = .ok (.goto (-76), 3) := by decide +kernel
theorem d_Court_addGains_84 : decode M_Court_addGains.2.1 84 = .ok (.iload_n 3, 1) := by decide +kernel
theorem d_Court_addGains_85 : decode M_Court_addGains.2.1 85 = .ok (.ireturn, 1) := by decide +kernel
theorem d_Court_tally_0 : decode M_Court_tally.2.1 0 = .ok (.aload_n 0, 1) := by decide +kernel
theorem d_Court_tally_1 : decode M_Court_tally.2.1 1 = .ok (.getfield 26, 3) := by decide +kernel
theorem d_Court_tally_4 : decode M_Court_tally.2.1 4 = .ok (.iconst 0, 1) := by decide +kernel
theorem d_Court_tally_5 : decode M_Court_tally.2.1 5 = .ok (.invokestatic 101, 3) := by decide +kernel
theorem d_Court_tally_8 : decode M_Court_tally.2.1 8 = .ok (.iconst 0, 1) := by decide +kernel
theorem d_Court_tally_9 : decode M_Court_tally.2.1 9 = .ok (.istore 5, 2) := by decide +kernel
theorem d_Court_tally_11 : decode M_Court_tally.2.1 11 = .ok (.iconst 0, 1) := by decide +kernel
theorem d_Court_tally_12 : decode M_Court_tally.2.1 12 = .ok (.istore 6, 2) := by decide +kernel
theorem d_Court_tally_14 : decode M_Court_tally.2.1 14 = .ok (.iload 6, 2) := by decide +kernel
theorem d_Court_tally_16 : decode M_Court_tally.2.1 16 = .ok (.iconst 4, 1) := by decide +kernel
theorem d_Court_tally_17 : decode M_Court_tally.2.1 17 = .ok (.if_icmp .ge 62, 3) := by decide +kernel
theorem d_Court_tally_20 : decode M_Court_tally.2.1 20 = .ok (.iload_n 1, 1) := by decide +kernel
theorem d_Court_tally_21 : decode M_Court_tally.2.1 21 = .ok (.iconst (-1), 1) := by decide +kernel
theorem d_Court_tally_22 : decode M_Court_tally.2.1 22 = .ok (.if_icmp .eq 16, 3) := by decide +kernel
theorem d_Court_tally_25 : decode M_Court_tally.2.1 25 = .ok (.aload_n 0, 1) := by decide +kernel
theorem d_Court_tally_26 : decode M_Court_tally.2.1 26 = .ok (.getfield 29, 3) := by decide +kernel
theorem d_Court_tally_29 : decode M_Court_tally.2.1 29 = .ok (.iload_n 1, 1) := by decide +kernel
theorem d_Court_tally_30 : decode M_Court_tally.2.1 30 = .ok (.invokevirtual 91, 3) := by decide +kernel
theorem d_Court_tally_33 : decode M_Court_tally.2.1 33 = .ok (.iload 6, 2) := by decide +kernel
theorem d_Court_tally_35 : decode M_Court_tally.2.1 35 = .ok (.if_icmp .ne 38, 3) := by decide +kernel
theorem d_Court_tally_38 : decode M_Court_tally.2.1 38 = .ok (.iload_n 2, 1) := by decide +kernel
theorem d_Court_tally_39 : decode M_Court_tally.2.1 39 = .ok (.istore 7, 2) := by decide +kernel
theorem d_Court_tally_41 : decode M_Court_tally.2.1 41 = .ok (.iload 7, 2) := by decide +kernel
theorem d_Court_tally_43 : decode M_Court_tally.2.1 43 = .ok (.iload_n 3, 1) := by decide +kernel
theorem d_Court_tally_44 : decode M_Court_tally.2.1 44 = .ok (.if_icmp .gt 29, 3) := by decide +kernel
theorem d_Court_tally_47 : decode M_Court_tally.2.1 47 = .ok (.aload_n 0, 1) := by decide +kernel
theorem d_Court_tally_48 : decode M_Court_tally.2.1 48 = .ok (.iload 7, 2) := by decide +kernel
theorem d_Court_tally_50 : decode M_Court_tally.2.1 50 = .ok (.iload 6, 2) := by decide +kernel
theorem d_Court_tally_52 : decode M_Court_tally.2.1 52 = .ok (.invokevirtual 98, 3) := by decide +kernel
theorem d_Court_tally_55 : decode M_Court_tally.2.1 55 = .ok (.iload 5, 2) := by decide +kernel
theorem d_Court_tally_57 : decode M_Court_tally.2.1 57 = .ok (.aload_n 0, 1) := by decide +kernel
theorem d_Court_tally_58 : decode M_Court_tally.2.1 58 = .ok (.iload_n 1, 1) := by decide +kernel
theorem d_Court_tally_59 : decode M_Court_tally.2.1 59 = .ok (.iload 4, 2) := by decide +kernel
theorem d_Court_tally_61 : decode M_Court_tally.2.1 61 = .ok (.invokevirtual 107, 3) := by decide +kernel
theorem d_Court_tally_64 : decode M_Court_tally.2.1 64 = .ok (.iadd, 1) := by decide +kernel
theorem d_Court_tally_65 : decode M_Court_tally.2.1 65 = .ok (.istore 5, 2) := by decide +kernel
theorem d_Court_tally_67 : decode M_Court_tally.2.1 67 = .ok (.iinc 7 1, 3) := by decide +kernel
theorem d_Court_tally_70 : decode M_Court_tally.2.1 70 = .ok (.goto (-29), 3) := by decide +kernel
theorem d_Court_tally_73 : decode M_Court_tally.2.1 73 = .ok (.iinc 6 1, 3) := by decide +kernel
theorem d_Court_tally_76 : decode M_Court_tally.2.1 76 = .ok (.goto (-62), 3) := by decide +kernel
theorem d_Court_tally_79 : decode M_Court_tally.2.1 79 = .ok (.iload 5, 2) := by decide +kernel
theorem d_Court_tally_81 : decode M_Court_tally.2.1 81 = .ok (.ireturn, 1) := by decide +kernel
theorem d_Ww_sum_0 : decode M_Ww_sum.2.1 0 = .ok (.iload_n 1, 1) := by decide +kernel
theorem d_Ww_sum_1 : decode M_Ww_sum.2.1 1 = .ok (.iconst (-1), 1) := by decide +kernel
theorem d_Ww_sum_2 : decode M_Ww_sum.2.1 2 = .ok (.if_icmp .eq 17, 3) := by decide +kernel
theorem d_Ww_sum_5 : decode M_Ww_sum.2.1 5 = .ok (.iload_n 1, 1) := by decide +kernel
theorem d_Ww_sum_6 : decode M_Ww_sum.2.1 6 = .ok (.aload_n 0, 1) := by decide +kernel
theorem d_Ww_sum_7 : decode M_Ww_sum.2.1 7 = .ok (.getfield 10, 3) := by decide +kernel
theorem d_Ww_sum_10 : decode M_Ww_sum.2.1 10 = .ok (.getfield 170, 3) := by decide +kernel
theorem d_Ww_sum_13 : decode M_Ww_sum.2.1 13 = .ok (.invokestatic 80, 3) := by decide +kernel
theorem d_Ww_sum_16 : decode M_Ww_sum.2.1 16 = .ok (.ifCond .eq 11, 3) := by decide +kernel
theorem d_Ww_sum_19 : decode M_Ww_sum.2.1 19 = .ok (.iload_n 2, 1) := by decide +kernel
theorem d_Ww_sum_20 : decode M_Ww_sum.2.1 20 = .ok (.iload_n 3, 1) := by decide +kernel
theorem d_Ww_sum_21 : decode M_Ww_sum.2.1 21 = .ok (.invokestatic 138, 3) := by decide +kernel
theorem d_Ww_sum_24 : decode M_Ww_sum.2.1 24 = .ok (.ifCond .ne 6, 3) := by decide +kernel
theorem d_Ww_sum_27 : decode M_Ww_sum.2.1 27 = .ok (.ldc 189, 2) := by decide +kernel
theorem d_Ww_sum_29 : decode M_Ww_sum.2.1 29 = .ok (.ireturn, 1) := by decide +kernel
theorem d_Ww_sum_30 : decode M_Ww_sum.2.1 30 = .ok (.aload_n 0, 1) := by decide +kernel
theorem d_Ww_sum_31 : decode M_Ww_sum.2.1 31 = .ok (.getfield 53, 3) := by decide +kernel
theorem d_Ww_sum_34 : decode M_Ww_sum.2.1 34 = .ok (.iload_n 1, 1) := by decide +kernel
theorem d_Ww_sum_35 : decode M_Ww_sum.2.1 35 = .ok (.iload_n 2, 1) := by decide +kernel
theorem d_Ww_sum_36 : decode M_Ww_sum.2.1 36 = .ok (.iload_n 3, 1) := by decide +kernel
theorem d_Ww_sum_37 : decode M_Ww_sum.2.1 37 = .ok (.iload 4, 2) := by decide +kernel
theorem d_Ww_sum_39 : decode M_Ww_sum.2.1 39 = .ok (.invokevirtual 190, 3) := by decide +kernel
theorem d_Ww_sum_42 : decode M_Ww_sum.2.1 42 = .ok (.ireturn, 1) := by decide +kernel
theorem d_Court_totalOf_0 : decode M_Court_totalOf.2.1 0 = .ok (.iload_n 1, 1) := by decide +kernel
theorem d_Court_totalOf_1 : decode M_Court_totalOf.2.1 1 = .ok (.bipush 12, 2) := by decide +kernel
theorem d_Court_totalOf_3 : decode M_Court_totalOf.2.1 3 = .ok (.invokestatic 80, 3) := by decide +kernel
theorem d_Court_totalOf_6 : decode M_Court_totalOf.2.1 6 = .ok (.ifCond .eq 12, 3) := by decide +kernel
theorem d_Court_totalOf_9 : decode M_Court_totalOf.2.1 9 = .ok (.aload_n 0, 1) := by decide +kernel
theorem d_Court_totalOf_10 : decode M_Court_totalOf.2.1 10 = .ok (.getfield 26, 3) := by decide +kernel
theorem d_Court_totalOf_13 : decode M_Court_totalOf.2.1 13 = .ok (.iload_n 1, 1) := by decide +kernel
theorem d_Court_totalOf_14 : decode M_Court_totalOf.2.1 14 = .ok (.iaload, 1) := by decide +kernel
theorem d_Court_totalOf_15 : decode M_Court_totalOf.2.1 15 = .ok (.goto 4, 3) := by decide +kernel
theorem d_Court_totalOf_18 : decode M_Court_totalOf.2.1 18 = .ok (.iconst 0, 1) := by decide +kernel
theorem d_Court_totalOf_19 : decode M_Court_totalOf.2.1 19 = .ok (.ireturn, 1) := by decide +kernel
theorem d_Ww_ruined_0 : decode M_Ww_ruined.2.1 0 = .ok (.aload_n 0, 1) := by decide +kernel
theorem d_Ww_ruined_1 : decode M_Ww_ruined.2.1 1 = .ok (.getfield 53, 3) := by decide +kernel
theorem d_Ww_ruined_4 : decode M_Ww_ruined.2.1 4 = .ok (.iconst (-1), 1) := by decide +kernel
theorem d_Ww_ruined_5 : decode M_Ww_ruined.2.1 5 = .ok (.iconst 0, 1) := by decide +kernel
theorem d_Ww_ruined_6 : decode M_Ww_ruined.2.1 6 = .ok (.bipush 29, 2) := by decide +kernel
theorem d_Ww_ruined_8 : decode M_Ww_ruined.2.1 8 = .ok (.iconst 0, 1) := by decide +kernel
theorem d_Ww_ruined_9 : decode M_Ww_ruined.2.1 9 = .ok (.invokevirtual 190, 3) := by decide +kernel
theorem d_Ww_ruined_12 : decode M_Ww_ruined.2.1 12 = .ok (.pop, 1) := by decide +kernel
theorem d_Ww_ruined_13 : decode M_Ww_ruined.2.1 13 = .ok (.iconst 0, 1) := by decide +kernel
theorem d_Ww_ruined_14 : decode M_Ww_ruined.2.1 14 = .ok (.istore_n 2, 1) := by decide +kernel
theorem d_Ww_ruined_15 : decode M_Ww_ruined.2.1 15 = .ok (.iconst 0, 1) := by decide +kernel
theorem d_Ww_ruined_16 : decode M_Ww_ruined.2.1 16 = .ok (.istore_n 3, 1) := by decide +kernel
theorem d_Ww_ruined_17 : decode M_Ww_ruined.2.1 17 = .ok (.iload_n 3, 1) := by decide +kernel
theorem d_Ww_ruined_18 : decode M_Ww_ruined.2.1 18 = .ok (.aload_n 0, 1) := by decide +kernel
theorem d_Ww_ruined_19 : decode M_Ww_ruined.2.1 19 = .ok (.getfield 10, 3) := by decide +kernel
theorem d_Ww_ruined_22 : decode M_Ww_ruined.2.1 22 = .ok (.getfield 170, 3) := by decide +kernel
theorem d_Ww_ruined_25 : decode M_Ww_ruined.2.1 25 = .ok (.if_icmp .ge 38, 3) := by decide +kernel
theorem d_Ww_ruined_28 : decode M_Ww_ruined.2.1 28 = .ok (.aload_n 0, 1) := by decide +kernel
theorem d_Ww_ruined_29 : decode M_Ww_ruined.2.1 29 = .ok (.getfield 53, 3) := by decide +kernel
theorem d_Ww_ruined_32 : decode M_Ww_ruined.2.1 32 = .ok (.iload_n 3, 1) := by decide +kernel
theorem d_Ww_ruined_33 : decode M_Ww_ruined.2.1 33 = .ok (.invokevirtual 194, 3) := by decide +kernel
theorem d_Ww_ruined_36 : decode M_Ww_ruined.2.1 36 = .ok (.aload_n 0, 1) := by decide +kernel
theorem d_Ww_ruined_37 : decode M_Ww_ruined.2.1 37 = .ok (.getfield 10, 3) := by decide +kernel
theorem d_Ww_ruined_40 : decode M_Ww_ruined.2.1 40 = .ok (.getfield 103, 3) := by decide +kernel
theorem d_Ww_ruined_43 : decode M_Ww_ruined.2.1 43 = .ok (.ineg, 1) := by decide +kernel
theorem d_Ww_ruined_44 : decode M_Ww_ruined.2.1 44 = .ok (.if_icmp .ge 13, 3) := by decide +kernel
theorem d_Ww_ruined_47 : decode M_Ww_ruined.2.1 47 = .ok (.iload_n 2, 1) := by decide +kernel
theorem d_Ww_ruined_48 : decode M_Ww_ruined.2.1 48 = .ok (.iload_n 1, 1) := by decide +kernel
theorem d_Ww_ruined_49 : decode M_Ww_ruined.2.1 49 = .ok (.if_icmp .ne 5, 3) := by decide +kernel
theorem d_Ww_ruined_52 : decode M_Ww_ruined.2.1 52 = .ok (.iload_n 3, 1) := by decide +kernel
theorem d_Ww_ruined_53 : decode M_Ww_ruined.2.1 53 = .ok (.ireturn, 1) := by decide +kernel
theorem d_Ww_ruined_54 : decode M_Ww_ruined.2.1 54 = .ok (.iinc 2 1, 3) := by decide +kernel
theorem d_Ww_ruined_57 : decode M_Ww_ruined.2.1 57 = .ok (.iinc 3 1, 3) := by decide +kernel
theorem d_Ww_ruined_60 : decode M_Ww_ruined.2.1 60 = .ok (.goto (-43), 3) := by decide +kernel
theorem d_Ww_ruined_63 : decode M_Ww_ruined.2.1 63 = .ok (.iload_n 1, 1) := by decide +kernel
theorem d_Ww_ruined_64 : decode M_Ww_ruined.2.1 64 = .ok (.iconst (-1), 1) := by decide +kernel
theorem d_Ww_ruined_65 : decode M_Ww_ruined.2.1 65 = .ok (.if_icmp .ne 7, 3) := by decide +kernel
theorem d_Ww_ruined_68 : decode M_Ww_ruined.2.1 68 = .ok (.iload_n 2, 1) := by decide +kernel
theorem d_Ww_ruined_69 : decode M_Ww_ruined.2.1 69 = .ok (.goto 4, 3) := by decide +kernel
theorem d_Ww_ruined_72 : decode M_Ww_ruined.2.1 72 = .ok (.iconst (-1), 1) := by decide +kernel
theorem d_Ww_ruined_73 : decode M_Ww_ruined.2.1 73 = .ok (.ireturn, 1) := by decide +kernel
theorem d_Court_moreByOther_0 : decode M_Court_moreByOther.2.1 0 = .ok (.aload_n 0, 1) := by decide +kernel
theorem d_Court_moreByOther_1 : decode M_Court_moreByOther.2.1 1 = .ok (.getfield 29, 3) := by decide +kernel
theorem d_Court_moreByOther_4 : decode M_Court_moreByOther.2.1 4 = .ok (.iload_n 1, 1) := by decide +kernel
theorem d_Court_moreByOther_5 : decode M_Court_moreByOther.2.1 5 = .ok (.invokevirtual 91, 3) := by decide +kernel
theorem d_Court_moreByOther_8 : decode M_Court_moreByOther.2.1 8 = .ok (.istore_n 3, 1) := by decide +kernel
theorem d_Court_moreByOther_9 : decode M_Court_moreByOther.2.1 9 = .ok (.aload_n 0, 1) := by decide +kernel
theorem d_Court_moreByOther_10 : decode M_Court_moreByOther.2.1 10 = .ok (.iload_n 2, 1) := by decide +kernel
theorem d_Court_moreByOther_11 : decode M_Court_moreByOther.2.1 11 = .ok (.iload_n 3, 1) := by decide +kernel
theorem d_Court_moreByOther_12 : decode M_Court_moreByOther.2.1 12 = .ok (.invokevirtual 98, 3) := by decide +kernel
theorem d_Court_moreByOther_15 : decode M_Court_moreByOther.2.1 15 = .ok (.aload_n 0, 1) := by decide +kernel
theorem d_Court_moreByOther_16 : decode M_Court_moreByOther.2.1 16 = .ok (.iload_n 1, 1) := by decide +kernel
theorem d_Court_moreByOther_17 : decode M_Court_moreByOther.2.1 17 = .ok (.iconst 0, 1) := by decide +kernel
theorem d_Court_moreByOther_18 : decode M_Court_moreByOther.2.1 18 = .ok (.invokevirtual 94, 3) := by decide +kernel
theorem d_Court_moreByOther_21 : decode M_Court_moreByOther.2.1 21 = .ok (.istore 4, 2) := by decide +kernel
theorem d_Court_moreByOther_23 : decode M_Court_moreByOther.2.1 23 = .ok (.aload_n 0, 1) := by decide +kernel
theorem d_Court_moreByOther_24 : decode M_Court_moreByOther.2.1 24 = .ok (.iload_n 2, 1) := by decide +kernel
theorem d_Court_moreByOther_25 : decode M_Court_moreByOther.2.1 25 = .ok (.iload_n 3, 1) := by decide +kernel
theorem d_Court_moreByOther_26 : decode M_Court_moreByOther.2.1 26 = .ok (.iconst 1, 1) := by decide +kernel
theorem d_Court_moreByOther_27 : decode M_Court_moreByOther.2.1 27 = .ok (.aload_n 0, 1) := by decide +kernel
theorem d_Court_moreByOther_28 : decode M_Court_moreByOther.2.1 28 = .ok (.getfield 29, 3) := by decide +kernel
theorem d_Court_moreByOther_31 : decode M_Court_moreByOther.2.1 31 = .ok (.iload_n 2, 1) := by decide +kernel
theorem d_Court_moreByOther_32 : decode M_Court_moreByOther.2.1 32 = .ok (.iload_n 3, 1) := by decide +kernel
theorem d_Court_moreByOther_33 : decode M_Court_moreByOther.2.1 33 = .ok (.invokevirtual 37, 3) := by decide +kernel
theorem d_Court_moreByOther_36 : decode M_Court_moreByOther.2.1 36 = .ok (.isub, 1) := by decide +kernel
theorem d_Court_moreByOther_37 : decode M_Court_moreByOther.2.1 37 = .ok (.invokevirtual 43, 3) := by decide +kernel
theorem d_Court_moreByOther_40 : decode M_Court_moreByOther.2.1 40 = .ok (.aload_n 0, 1) := by decide +kernel
theorem d_Court_moreByOther_41 : decode M_Court_moreByOther.2.1 41 = .ok (.iload_n 1, 1) := by decide +kernel
theorem d_Court_moreByOther_42 : decode M_Court_moreByOther.2.1 42 = .ok (.iconst 0, 1) := by decide +kernel
theorem d_Court_moreByOther_43 : decode M_Court_moreByOther.2.1 43 = .ok (.invokevirtual 94, 3) := by decide +kernel
theorem d_Court_moreByOther_46 : decode M_Court_moreByOther.2.1 46 = .ok (.iload 4, 2) := by decide +kernel
theorem d_Court_moreByOther_48 : decode M_Court_moreByOther.2.1 48 = .ok (.isub, 1) := by decide +kernel
theorem d_Court_moreByOther_49 : decode M_Court_moreByOther.2.1 49 = .ok (.ireturn, 1) := by decide +kernel
theorem d_Ww_led_0 : decode M_Ww_led.2.1 0 = .ok (.iload_n 1, 1) := by decide +kernel
theorem d_Ww_led_1 : decode M_Ww_led.2.1 1 = .ok (.aload_n 0, 1) := by decide +kernel
theorem d_Ww_led_2 : decode M_Ww_led.2.1 2 = .ok (.getfield 10, 3) := by decide +kernel
theorem d_Ww_led_5 : decode M_Ww_led.2.1 5 = .ok (.getfield 170, 3) := by decide +kernel
theorem d_Ww_led_8 : decode M_Ww_led.2.1 8 = .ok (.invokestatic 80, 3) := by decide +kernel
theorem d_Ww_led_11 : decode M_Ww_led.2.1 11 = .ok (.ifCond .eq 11, 3) := by decide +kernel
theorem d_Ww_led_14 : decode M_Ww_led.2.1 14 = .ok (.iload_n 2, 1) := by decide +kernel
theorem d_Ww_led_15 : decode M_Ww_led.2.1 15 = .ok (.iconst 2, 1) := by decide +kernel
theorem d_Ww_led_16 : decode M_Ww_led.2.1 16 = .ok (.invokestatic 80, 3) := by decide +kernel
theorem d_Ww_led_19 : decode M_Ww_led.2.1 19 = .ok (.ifCond .ne 5, 3) := by decide +kernel
theorem d_Ww_led_22 : decode M_Ww_led.2.1 22 = .ok (.iconst (-1), 1) := by decide +kernel
theorem d_Ww_led_23 : decode M_Ww_led.2.1 23 = .ok (.ireturn, 1) := by decide +kernel
theorem d_Ww_led_24 : decode M_Ww_led.2.1 24 = .ok (.iconst (-1), 1) := by decide +kernel
theorem d_Ww_led_25 : decode M_Ww_led.2.1 25 = .ok (.istore_n 3, 1) := by decide +kernel
theorem d_Ww_led_26 : decode M_Ww_led.2.1 26 = .ok (.iconst 0, 1) := by decide +kernel
theorem d_Ww_led_27 : decode M_Ww_led.2.1 27 = .ok (.istore 4, 2) := by decide +kernel
theorem d_Ww_led_29 : decode M_Ww_led.2.1 29 = .ok (.iconst 0, 1) := by decide +kernel
theorem d_Ww_led_30 : decode M_Ww_led.2.1 30 = .ok (.istore 5, 2) := by decide +kernel
theorem d_Ww_led_32 : decode M_Ww_led.2.1 32 = .ok (.iload 5, 2) := by decide +kernel
theorem d_Ww_led_34 : decode M_Ww_led.2.1 34 = .ok (.bipush 30, 2) := by decide +kernel
theorem d_Ww_led_36 : decode M_Ww_led.2.1 36 = .ok (.if_icmp .ge 35, 3) := by decide +kernel
theorem d_Ww_led_39 : decode M_Ww_led.2.1 39 = .ok (.aload_n 0, 1) := by decide +kernel
theorem d_Ww_led_40 : decode M_Ww_led.2.1 40 = .ok (.getfield 53, 3) := by decide +kernel
theorem d_Ww_led_43 : decode M_Ww_led.2.1 43 = .ok (.iload_n 1, 1) := by decide +kernel
theorem d_Ww_led_44 : decode M_Ww_led.2.1 44 = .ok (.iload 5, 2) := by decide +kernel
theorem d_Ww_led_46 : decode M_Ww_led.2.1 46 = .ok (.invokevirtual 197, 3) := by decide +kernel
theorem d_Ww_led_49 : decode M_Ww_led.2.1 49 = .ok (.istore 6, 2) := by decide +kernel
theorem d_Ww_led_51 : decode M_Ww_led.2.1 51 = .ok (.iload 6, 2) := by decide +kernel
theorem d_Ww_led_53 : decode M_Ww_led.2.1 53 = .ok (.iload 4, 2) := by decide +kernel
theorem d_Ww_led_55 : decode M_Ww_led.2.1 55 = .ok (.if_icmp .le 10, 3) := by decide +kernel
theorem d_Ww_led_58 : decode M_Ww_led.2.1 58 = .ok (.iload 6, 2) := by decide +kernel
theorem d_Ww_led_60 : decode M_Ww_led.2.1 60 = .ok (.istore 4, 2) := by decide +kernel
theorem d_Ww_led_62 : decode M_Ww_led.2.1 62 = .ok (.iload 5, 2) := by decide +kernel
theorem d_Ww_led_64 : decode M_Ww_led.2.1 64 = .ok (.istore_n 3, 1) := by decide +kernel
theorem d_Ww_led_65 : decode M_Ww_led.2.1 65 = .ok (.iinc 5 1, 3) := by decide +kernel
theorem d_Ww_led_68 : decode M_Ww_led.2.1 68 = .ok (.goto (-36), 3) := by decide +kernel
theorem d_Ww_led_71 : decode M_Ww_led.2.1 71 = .ok (.iload_n 3, 1) := by decide +kernel
theorem d_Ww_led_72 : decode M_Ww_led.2.1 72 = .ok (.iconst (-1), 1) := by decide +kernel
theorem d_Ww_led_73 : decode M_Ww_led.2.1 73 = .ok (.if_icmp .ne 5, 3) := by decide +kernel
theorem d_Ww_led_76 : decode M_Ww_led.2.1 76 = .ok (.iconst (-1), 1) := by decide +kernel
theorem d_Ww_led_77 : decode M_Ww_led.2.1 77 = .ok (.ireturn, 1) := by decide +kernel
theorem d_Ww_led_78 : decode M_Ww_led.2.1 78 = .ok (.iload_n 2, 1) := by decide +kernel
theorem d_Ww_led_79 : decode M_Ww_led.2.1 79 = .ok (.ifCond .ne 7, 3) := by decide +kernel
theorem d_Ww_led_82 : decode M_Ww_led.2.1 82 = .ok (.iload_n 3, 1) := by decide +kernel
theorem d_Ww_led_83 : decode M_Ww_led.2.1 83 = .ok (.goto 5, 3) := by decide +kernel
theorem d_Ww_led_86 : decode M_Ww_led.2.1 86 = .ok (.iload 4, 2) := by decide +kernel
theorem d_Ww_led_88 : decode M_Ww_led.2.1 88 = .ok (.ireturn, 1) := by decide +kernel
theorem d_Ww_commonOf_0 : decode M_Ww_commonOf.2.1 0 = .ok (.iload_n 0, 1) := by decide +kernel
theorem d_Ww_commonOf_1 : decode M_Ww_commonOf.2.1 1 = .ok (.istore_n 2, 1) := by decide +kernel
theorem d_Ww_commonOf_2 : decode M_Ww_commonOf.2.1 2 = .ok (.iload_n 1, 1) := by decide +kernel
theorem d_Ww_commonOf_3 : decode M_Ww_commonOf.2.1 3 = .ok (.istore_n 3, 1) := by decide +kernel
theorem d_Ww_commonOf_4 : decode M_Ww_commonOf.2.1 4 = .ok (.iconst 0, 1) := by decide +kernel
theorem d_Ww_commonOf_5 : decode M_Ww_commonOf.2.1 5 = .ok (.istore 4, 2) := by decide +kernel
theorem d_Ww_commonOf_7 : decode M_Ww_commonOf.2.1 7 = .ok (.iload 4, 2) := by decide +kernel
theorem d_Ww_commonOf_9 : decode M_Ww_commonOf.2.1 9 = .ok (.bipush 100, 2) := by decide +kernel
theorem d_Ww_commonOf_11 : decode M_Ww_commonOf.2.1 11 = .ok (.if_icmp .ge 23, 3) := by decide +kernel
theorem d_Ww_commonOf_14 : decode M_Ww_commonOf.2.1 14 = .ok (.iload_n 3, 1) := by decide +kernel
theorem d_Ww_commonOf_15 : decode M_Ww_commonOf.2.1 15 = .ok (.ifCond .eq 19, 3) := by decide +kernel
theorem d_Ww_commonOf_18 : decode M_Ww_commonOf.2.1 18 = .ok (.iload_n 2, 1) := by decide +kernel
theorem d_Ww_commonOf_19 : decode M_Ww_commonOf.2.1 19 = .ok (.iload_n 3, 1) := by decide +kernel
theorem d_Ww_commonOf_20 : decode M_Ww_commonOf.2.1 20 = .ok (.irem, 1) := by decide +kernel
theorem d_Ww_commonOf_21 : decode M_Ww_commonOf.2.1 21 = .ok (.istore 5, 2) := by decide +kernel
theorem d_Ww_commonOf_23 : decode M_Ww_commonOf.2.1 23 = .ok (.iload_n 3, 1) := by decide +kernel
theorem d_Ww_commonOf_24 : decode M_Ww_commonOf.2.1 24 = .ok (.istore_n 2, 1) := by decide +kernel
theorem d_Ww_commonOf_25 : decode M_Ww_commonOf.2.1 25 = .ok (.iload 5, 2) := by decide +kernel
theorem d_Ww_commonOf_27 : decode M_Ww_commonOf.2.1 27 = .ok (.istore_n 3, 1) := by decide +kernel
theorem d_Ww_commonOf_28 : decode M_Ww_commonOf.2.1 28 = .ok (.iinc 4 1, 3) := by decide +kernel
theorem d_Ww_commonOf_31 : decode M_Ww_commonOf.2.1 31 = .ok (.goto (-24), 3) := by decide +kernel
theorem d_Ww_commonOf_34 : decode M_Ww_commonOf.2.1 34 = .ok (.iload_n 2, 1) := by decide +kernel
theorem d_Ww_commonOf_35 : decode M_Ww_commonOf.2.1 35 = .ok (.ireturn, 1) := by decide +kernel
theorem d_Court_allDoAlike_0 : decode M_Court_allDoAlike.2.1 0 = .ok (.aload_n 0, 1) := by decide +kernel
theorem d_Court_allDoAlike_1 : decode M_Court_allDoAlike.2.1 1 = .ok (.getfield 18, 3) := by decide +kernel
theorem d_Court_allDoAlike_4 : decode M_Court_allDoAlike.2.1 4 = .ok (.bipush 13, 2) := by decide +kernel
theorem d_Court_allDoAlike_6 : decode M_Court_allDoAlike.2.1 6 = .ok (.iload_n 1, 1) := by decide +kernel
theorem d_Court_allDoAlike_7 : decode M_Court_allDoAlike.2.1 7 = .ok (.invokevirtual 60, 3) := by decide +kernel
theorem d_Court_allDoAlike_10 : decode M_Court_allDoAlike.2.1 10 = .ok (.iconst 0, 1) := by decide +kernel
theorem d_Court_allDoAlike_11 : decode M_Court_allDoAlike.2.1 11 = .ok (.istore_n 2, 1) := by decide +kernel
theorem d_Court_allDoAlike_12 : decode M_Court_allDoAlike.2.1 12 = .ok (.iload_n 2, 1) := by decide +kernel
theorem d_Court_allDoAlike_13 : decode M_Court_allDoAlike.2.1 13 = .ok (.aload_n 0, 1) := by decide +kernel
theorem d_Court_allDoAlike_14 : decode M_Court_allDoAlike.2.1 14 = .ok (.getfield 29, 3) := by decide +kernel
theorem d_Court_allDoAlike_17 : decode M_Court_allDoAlike.2.1 17 = .ok (.getfield 67, 3) := by decide +kernel
theorem d_Court_allDoAlike_20 : decode M_Court_allDoAlike.2.1 20 = .ok (.if_icmp .ge 52, 3) := by decide +kernel
theorem d_Court_allDoAlike_23 : decode M_Court_allDoAlike.2.1 23 = .ok (.iload_n 2, 1) := by decide +kernel
theorem d_Court_allDoAlike_24 : decode M_Court_allDoAlike.2.1 24 = .ok (.bipush 12, 2) := by decide +kernel
theorem d_Court_allDoAlike_26 : decode M_Court_allDoAlike.2.1 26 = .ok (.if_icmp .ge 46, 3) := by decide +kernel
theorem d_Court_allDoAlike_29 : decode M_Court_allDoAlike.2.1 29 = .ok (.aload_n 0, 1) := by decide +kernel
theorem d_Court_allDoAlike_30 : decode M_Court_allDoAlike.2.1 30 = .ok (.getfield 29, 3) := by decide +kernel
theorem d_Court_allDoAlike_33 : decode M_Court_allDoAlike.2.1 33 = .ok (.getfield 70, 3) := by decide +kernel
theorem d_Court_allDoAlike_36 : decode M_Court_allDoAlike.2.1 36 = .ok (.iload_n 2, 1) := by decide +kernel
theorem d_Court_allDoAlike_37 : decode M_Court_allDoAlike.2.1 37 = .ok (.iaload, 1) := by decide +kernel
theorem d_Court_allDoAlike_38 : decode M_Court_allDoAlike.2.1 38 = .ok (.aload_n 0, 1) := by decide +kernel
theorem d_Court_allDoAlike_39 : decode M_Court_allDoAlike.2.1 39 = .ok (.getfield 51, 3) := by decide +kernel
theorem d_Court_allDoAlike_42 : decode M_Court_allDoAlike.2.1 42 = .ok (.if_icmp .ne 24, 3) := by decide +kernel
theorem d_Court_allDoAlike_45 : decode M_Court_allDoAlike.2.1 45 = .ok (.aload_n 0, 1) := by decide +kernel
theorem d_Court_allDoAlike_46 : decode M_Court_allDoAlike.2.1 46 = .ok (.iload_n 2, 1) := by decide +kernel
theorem d_Court_allDoAlike_47 : decode M_Court_allDoAlike.2.1 47 = .ok (.invokevirtual 73, 3) := by decide +kernel
theorem d_Court_allDoAlike_50 : decode M_Court_allDoAlike.2.1 50 = .ok (.aload_n 0, 1) := by decide +kernel
theorem d_Court_allDoAlike_51 : decode M_Court_allDoAlike.2.1 51 = .ok (.iconst 1, 1) := by decide +kernel
theorem d_Court_allDoAlike_52 : decode M_Court_allDoAlike.2.1 52 = .ok (.invokevirtual 77, 3) := by decide +kernel
theorem d_Court_allDoAlike_55 : decode M_Court_allDoAlike.2.1 55 = .ok (.aload_n 0, 1) := by decide +kernel
theorem d_Court_allDoAlike_56 : decode M_Court_allDoAlike.2.1 56 = .ok (.getfield 22, 3) := by decide +kernel
theorem d_Court_allDoAlike_59 : decode M_Court_allDoAlike.2.1 59 = .ok (.iload_n 2, 1) := by decide +kernel
theorem d_Court_allDoAlike_60 : decode M_Court_allDoAlike.2.1 60 = .ok (.iaload, 1) := by decide +kernel
theorem d_Court_allDoAlike_61 : decode M_Court_allDoAlike.2.1 61 = .ok (.if_icmp .eq 5, 3) := by decide +kernel
theorem d_Court_allDoAlike_64 : decode M_Court_allDoAlike.2.1 64 = .ok (.iconst 0, 1) := by decide +kernel
theorem d_Court_allDoAlike_65 : decode M_Court_allDoAlike.2.1 65 = .ok (.ireturn, 1) := by decide +kernel
theorem d_Court_allDoAlike_66 : decode M_Court_allDoAlike.2.1 66 = .ok (.iinc 2 1, 3) := by decide +kernel
theorem d_Court_allDoAlike_69 : decode M_Court_allDoAlike.2.1 69 = .ok (.goto (-57), 3) := by decide +kernel
theorem d_Court_allDoAlike_72 : decode M_Court_allDoAlike.2.1 72 = .ok (.iconst 1, 1) := by decide +kernel
theorem d_Court_allDoAlike_73 : decode M_Court_allDoAlike.2.1 73 = .ok (.ireturn, 1) := by decide +kernel
theorem d_Ww_odds_0 : decode M_Ww_odds.2.1 0 = .ok (.iload_n 1, 1) := by decide +kernel
theorem d_Ww_odds_1 : decode M_Ww_odds.2.1 1 = .ok (.bipush 30, 2) := by decide +kernel
theorem d_Ww_odds_3 : decode M_Ww_odds.2.1 3 = .ok (.invokestatic 80, 3) := by decide +kernel
theorem d_Ww_odds_6 : decode M_Ww_odds.2.1 6 = .ok (.ifCond .eq 19, 3) := by decide +kernel
theorem d_Ww_odds_9 : decode M_Ww_odds.2.1 9 = .ok (.iload_n 2, 1) := by decide +kernel
theorem d_Ww_odds_10 : decode M_Ww_odds.2.1 10 = .ok (.iconst 4, 1) := by decide +kernel
theorem d_Ww_odds_11 : decode M_Ww_odds.2.1 11 = .ok (.invokestatic 80, 3) := by decide +kernel
theorem d_Ww_odds_14 : decode M_Ww_odds.2.1 14 = .ok (.ifCond .eq 11, 3) := by decide +kernel
theorem d_Ww_odds_17 : decode M_Ww_odds.2.1 17 = .ok (.iload_n 3, 1) := by decide +kernel
theorem d_Ww_odds_18 : decode M_Ww_odds.2.1 18 = .ok (.iconst 2, 1) := by decide +kernel
theorem d_Ww_odds_19 : decode M_Ww_odds.2.1 19 = .ok (.invokestatic 80, 3) := by decide +kernel
theorem d_Ww_odds_22 : decode M_Ww_odds.2.1 22 = .ok (.ifCond .ne 5, 3) := by decide +kernel
theorem d_Ww_odds_25 : decode M_Ww_odds.2.1 25 = .ok (.iconst (-1), 1) := by decide +kernel
theorem d_Ww_odds_26 : decode M_Ww_odds.2.1 26 = .ok (.ireturn, 1) := by decide +kernel
theorem d_Ww_odds_27 : decode M_Ww_odds.2.1 27 = .ok (.aload_n 0, 1) := by decide +kernel
theorem d_Ww_odds_28 : decode M_Ww_odds.2.1 28 = .ok (.getfield 53, 3) := by decide +kernel
theorem d_Ww_odds_31 : decode M_Ww_odds.2.1 31 = .ok (.iload_n 1, 1) := by decide +kernel
theorem d_Ww_odds_32 : decode M_Ww_odds.2.1 32 = .ok (.iload_n 2, 1) := by decide +kernel
theorem d_Ww_odds_33 : decode M_Ww_odds.2.1 33 = .ok (.invokevirtual 163, 3) := by decide +kernel
theorem d_Ww_odds_36 : decode M_Ww_odds.2.1 36 = .ok (.iconst 0, 1) := by decide +kernel
theorem d_Ww_odds_37 : decode M_Ww_odds.2.1 37 = .ok (.istore 4, 2) := by decide +kernel
theorem d_Ww_odds_39 : decode M_Ww_odds.2.1 39 = .ok (.iconst 0, 1) := by decide +kernel
theorem d_Ww_odds_40 : decode M_Ww_odds.2.1 40 = .ok (.istore 5, 2) := by decide +kernel
theorem d_Ww_odds_42 : decode M_Ww_odds.2.1 42 = .ok (.iconst 0, 1) := by decide +kernel
theorem d_Ww_odds_43 : decode M_Ww_odds.2.1 43 = .ok (.istore 6, 2) := by decide +kernel
theorem d_Ww_odds_45 : decode M_Ww_odds.2.1 45 = .ok (.iload 6, 2) := by decide +kernel
theorem d_Ww_odds_47 : decode M_Ww_odds.2.1 47 = .ok (.bipush 10, 2) := by decide +kernel
theorem d_Ww_odds_49 : decode M_Ww_odds.2.1 49 = .ok (.if_icmp .ge 61, 3) := by decide +kernel
theorem d_Ww_odds_52 : decode M_Ww_odds.2.1 52 = .ok (.aload_n 0, 1) := by decide +kernel
theorem d_Ww_odds_53 : decode M_Ww_odds.2.1 53 = .ok (.getfield 53, 3) := by decide +kernel
theorem d_Ww_odds_56 : decode M_Ww_odds.2.1 56 = .ok (.iload 6, 2) := by decide +kernel
theorem d_Ww_odds_58 : decode M_Ww_odds.2.1 58 = .ok (.invokevirtual 200, 3) := by decide +kernel
theorem d_Ww_odds_61 : decode M_Ww_odds.2.1 61 = .ok (.ifCond .eq 43, 3) := by decide +kernel
theorem d_Ww_odds_64 : decode M_Ww_odds.2.1 64 = .ok (.iload 5, 2) := by decide +kernel
theorem d_Ww_odds_66 : decode M_Ww_odds.2.1 66 = .ok (.aload_n 0, 1) := by decide +kernel
theorem d_Ww_odds_67 : decode M_Ww_odds.2.1 67 = .ok (.getfield 10, 3) := by decide +kernel
theorem d_Ww_odds_70 : decode M_Ww_odds.2.1 70 = .ok (.getfield 100, 3) := by decide +kernel
theorem d_Ww_odds_73 : decode M_Ww_odds.2.1 73 = .ok (.iload 6, 2) := by decide +kernel
theorem d_Ww_odds_75 : decode M_Ww_odds.2.1 75 = .ok (.iaload, 1) := by decide +kernel
theorem d_Ww_odds_76 : decode M_Ww_odds.2.1 76 = .ok (.iadd, 1) := by decide +kernel
theorem d_Ww_odds_77 : decode M_Ww_odds.2.1 77 = .ok (.istore 5, 2) := by decide +kernel
theorem d_Ww_odds_79 : decode M_Ww_odds.2.1 79 = .ok (.iload 4, 2) := by decide +kernel
theorem d_Ww_odds_81 : decode M_Ww_odds.2.1 81 = .ok (.iload 6, 2) := by decide +kernel
theorem d_Ww_odds_83 : decode M_Ww_odds.2.1 83 = .ok (.iconst 5, 1) := by decide +kernel
theorem d_Ww_odds_84 : decode M_Ww_odds.2.1 84 = .ok (.if_icmp .lt 16, 3) := by decide +kernel
theorem d_Ww_odds_87 : decode M_Ww_odds.2.1 87 = .ok (.aload_n 0, 1) := by decide +kernel
theorem d_Ww_odds_88 : decode M_Ww_odds.2.1 88 = .ok (.getfield 10, 3) := by decide +kernel
theorem d_Ww_odds_91 : decode M_Ww_odds.2.1 91 = .ok (.getfield 100, 3) := by decide +kernel
theorem d_Ww_odds_94 : decode M_Ww_odds.2.1 94 = .ok (.iload 6, 2) := by decide +kernel
theorem d_Ww_odds_96 : decode M_Ww_odds.2.1 96 = .ok (.iaload, 1) := by decide +kernel
theorem d_Ww_odds_97 : decode M_Ww_odds.2.1 97 = .ok (.goto 4, 3) := by decide +kernel
theorem d_Ww_odds_100 : decode M_Ww_odds.2.1 100 = .ok (.iconst 0, 1) := by decide +kernel
theorem d_Ww_odds_101 : decode M_Ww_odds.2.1 101 = .ok (.iadd, 1) := by decide +kernel
theorem d_Ww_odds_102 : decode M_Ww_odds.2.1 102 = .ok (.istore 4, 2) := by decide +kernel
theorem d_Ww_odds_104 : decode M_Ww_odds.2.1 104 = .ok (.iinc 6 1, 3) := by decide +kernel
theorem d_Ww_odds_107 : decode M_Ww_odds.2.1 107 = .ok (.goto (-62), 3) := by decide +kernel
theorem d_Ww_odds_110 : decode M_Ww_odds.2.1 110 = .ok (.iload 5, 2) := by decide +kernel
theorem d_Ww_odds_112 : decode M_Ww_odds.2.1 112 = .ok (.ifCond .ne 5, 3) := by decide +kernel
theorem d_Ww_odds_115 : decode M_Ww_odds.2.1 115 = .ok (.iconst (-1), 1) := by decide +kernel
theorem d_Ww_odds_116 : decode M_Ww_odds.2.1 116 = .ok (.ireturn, 1) := by decide +kernel
theorem d_Ww_odds_117 : decode M_Ww_odds.2.1 117 = .ok (.iload 5, 2) := by decide +kernel
theorem d_Ww_odds_119 : decode M_Ww_odds.2.1 119 = .ok (.iload 4, 2) := by decide +kernel
theorem d_Ww_odds_121 : decode M_Ww_odds.2.1 121 = .ok (.invokestatic 203, 3) := by decide +kernel
theorem d_Ww_odds_124 : decode M_Ww_odds.2.1 124 = .ok (.istore 6, 2) := by decide +kernel
theorem d_Ww_odds_126 : decode M_Ww_odds.2.1 126 = .ok (.iload_n 3, 1) := by decide +kernel
theorem d_Ww_odds_127 : decode M_Ww_odds.2.1 127 = .ok (.ifCond .ne 8, 3) := by decide +kernel
theorem d_Ww_odds_130 : decode M_Ww_odds.2.1 130 = .ok (.iload 4, 2) := by decide +kernel
theorem d_Ww_odds_132 : decode M_Ww_odds.2.1 132 = .ok (.goto 5, 3) := by decide +kernel
theorem d_Ww_odds_135 : decode M_Ww_odds.2.1 135 = .ok (.iload 5, 2) := by decide +kernel
theorem d_Ww_odds_137 : decode M_Ww_odds.2.1 137 = .ok (.iconst 1, 1) := by decide +kernel
theorem d_Ww_odds_138 : decode M_Ww_odds.2.1 138 = .ok (.iload 6, 2) := by decide +kernel
theorem d_Ww_odds_140 : decode M_Ww_odds.2.1 140 = .ok (.invokestatic 206, 3) := by decide +kernel
theorem d_Ww_odds_143 : decode M_Ww_odds.2.1 143 = .ok (.idiv, 1) := by decide +kernel
theorem d_Ww_odds_144 : decode M_Ww_odds.2.1 144 = .ok (.ireturn, 1) := by decide +kernel
theorem d_Planner_follow_0 : decode M_Planner_follow.2.1 0 = .ok (.iload_n 1, 1) := by decide +kernel
theorem d_Planner_follow_1 : decode M_Planner_follow.2.1 1 = .ok (.aload_n 0, 1) := by decide +kernel
theorem d_Planner_follow_2 : decode M_Planner_follow.2.1 2 = .ok (.getfield 36, 3) := by decide +kernel
theorem d_Planner_follow_5 : decode M_Planner_follow.2.1 5 = .ok (.if_icmp .ge 9, 3) := by decide +kernel
theorem d_Planner_follow_8 : decode M_Planner_follow.2.1 8 = .ok (.iload_n 1, 1) := by decide +kernel
theorem d_Planner_follow_9 : decode M_Planner_follow.2.1 9 = .ok (.bipush 10, 2) := by decide +kernel
theorem d_Planner_follow_11 : decode M_Planner_follow.2.1 11 = .ok (.if_icmp .lt 35, 3) := by decide +kernel
theorem d_Planner_follow_14 : decode M_Planner_follow.2.1 14 = .ok (.aload_n 0, 1) := by decide +kernel
theorem d_Planner_follow_15 : decode M_Planner_follow.2.1 15 = .ok (.getfield 51, 3) := by decide +kernel
theorem d_Planner_follow_18 : decode M_Planner_follow.2.1 18 = .ok (.ifCond .eq 11, 3) := by decide +kernel
theorem d_Planner_follow_21 : decode M_Planner_follow.2.1 21 = .ok (.iload_n 3, 1) := by decide +kernel
theorem d_Planner_follow_22 : decode M_Planner_follow.2.1 22 = .ok (.aload_n 0, 1) := by decide +kernel
theorem d_Planner_follow_23 : decode M_Planner_follow.2.1 23 = .ok (.getfield 55, 3) := by decide +kernel
theorem d_Planner_follow_26 : decode M_Planner_follow.2.1 26 = .ok (.if_icmp .le 19, 3) := by decide +kernel
theorem d_Planner_follow_29 : decode M_Planner_follow.2.1 29 = .ok (.aload_n 0, 1) := by decide +kernel
theorem d_Planner_follow_30 : decode M_Planner_follow.2.1 30 = .ok (.iconst 1, 1) := by decide +kernel
theorem d_Planner_follow_31 : decode M_Planner_follow.2.1 31 = .ok (.putfield 51, 3) := by decide +kernel
theorem d_Planner_follow_34 : decode M_Planner_follow.2.1 34 = .ok (.aload_n 0, 1) := by decide +kernel
theorem d_Planner_follow_35 : decode M_Planner_follow.2.1 35 = .ok (.iload_n 3, 1) := by decide +kernel
theorem d_Planner_follow_36 : decode M_Planner_follow.2.1 36 = .ok (.putfield 55, 3) := by decide +kernel
theorem d_Planner_follow_39 : decode M_Planner_follow.2.1 39 = .ok (.aload_n 0, 1) := by decide +kernel
theorem d_Planner_follow_40 : decode M_Planner_follow.2.1 40 = .ok (.iload 4, 2) := by decide +kernel
theorem d_Planner_follow_42 : decode M_Planner_follow.2.1 42 = .ok (.putfield 58, 3) := by decide +kernel
theorem d_Planner_follow_45 : decode M_Planner_follow.2.1 45 = .ok (.return_, 1) := by decide +kernel
theorem d_Planner_follow_46 : decode M_Planner_follow.2.1 46 = .ok (.iload_n 2, 1) := by decide +kernel
theorem d_Planner_follow_47 : decode M_Planner_follow.2.1 47 = .ok (.bipush 10, 2) := by decide +kernel
theorem d_Planner_follow_49 : decode M_Planner_follow.2.1 49 = .ok (.imul, 1) := by decide +kernel
theorem d_Planner_follow_50 : decode M_Planner_follow.2.1 50 = .ok (.aload_n 0, 1) := by decide +kernel
theorem d_Planner_follow_51 : decode M_Planner_follow.2.1 51 = .ok (.getfield 18, 3) := by decide +kernel
theorem d_Planner_follow_54 : decode M_Planner_follow.2.1 54 = .ok (.aload_n 0, 1) := by decide +kernel
theorem d_Planner_follow_55 : decode M_Planner_follow.2.1 55 = .ok (.getfield 26, 3) := by decide +kernel
theorem d_Planner_follow_58 : decode M_Planner_follow.2.1 58 = .ok (.iload_n 1, 1) := by decide +kernel
theorem d_Planner_follow_59 : decode M_Planner_follow.2.1 59 = .ok (.iadd, 1) := by decide +kernel
theorem d_Planner_follow_60 : decode M_Planner_follow.2.1 60 = .ok (.invokevirtual 70, 3) := by decide +kernel
theorem d_Planner_follow_63 : decode M_Planner_follow.2.1 63 = .ok (.iadd, 1) := by decide +kernel
theorem d_Planner_follow_64 : decode M_Planner_follow.2.1 64 = .ok (.istore 5, 2) := by decide +kernel
theorem d_Planner_follow_66 : decode M_Planner_follow.2.1 66 = .ok (.iload 5, 2) := by decide +kernel
theorem d_Planner_follow_68 : decode M_Planner_follow.2.1 68 = .ok (.aload_n 0, 1) := by decide +kernel
theorem d_Planner_follow_69 : decode M_Planner_follow.2.1 69 = .ok (.getfield 15, 3) := by decide +kernel
theorem d_Planner_follow_72 : decode M_Planner_follow.2.1 72 = .ok (.arraylength, 1) := by decide +kernel
theorem d_Planner_follow_73 : decode M_Planner_follow.2.1 73 = .ok (.invokestatic 74, 3) := by decide +kernel
theorem d_Planner_follow_76 : decode M_Planner_follow.2.1 76 = .ok (.ifCond .ne 4, 3) := by decide +kernel
theorem d_Planner_follow_79 : decode M_Planner_follow.2.1 79 = .ok (.return_, 1) := by decide +kernel
theorem d_Planner_follow_80 : decode M_Planner_follow.2.1 80 = .ok (.aload_n 0, 1) := by decide +kernel
theorem d_Planner_follow_81 : decode M_Planner_follow.2.1 81 = .ok (.getfield 15, 3) := by decide +kernel
theorem d_Planner_follow_84 : decode M_Planner_follow.2.1 84 = .ok (.iload 5, 2) := by decide +kernel
theorem d_Planner_follow_86 : decode M_Planner_follow.2.1 86 = .ok (.iaload, 1) := by decide +kernel
theorem d_Planner_follow_87 : decode M_Planner_follow.2.1 87 = .ok (.istore 6, 2) := by decide +kernel
theorem d_Planner_follow_89 : decode M_Planner_follow.2.1 89 = .ok (.iconst 0, 1) := by decide +kernel
theorem d_Planner_follow_90 : decode M_Planner_follow.2.1 90 = .ok (.istore 7, 2) := by decide +kernel
theorem d_Planner_follow_92 : decode M_Planner_follow.2.1 92 = .ok (.iload 7, 2) := by decide +kernel
theorem d_Planner_follow_94 : decode M_Planner_follow.2.1 94 = .ok (.iconst 1, 1) := by decide +kernel
theorem d_Planner_follow_95 : decode M_Planner_follow.2.1 95 = .ok (.if_icmp .gt 60, 3) := by decide +kernel
theorem d_Planner_follow_98 : decode M_Planner_follow.2.1 98 = .ok (.iload 6, 2) := by decide +kernel
theorem d_Planner_follow_100 : decode M_Planner_follow.2.1 100 = .ok (.iconst (-1), 1) := by decide +kernel
theorem d_Planner_follow_101 : decode M_Planner_follow.2.1 101 = .ok (.if_icmp .eq 10, 3) := by decide +kernel
theorem d_Planner_follow_104 : decode M_Planner_follow.2.1 104 = .ok (.iload 6, 2) := by decide +kernel
theorem d_Planner_follow_106 : decode M_Planner_follow.2.1 106 = .ok (.iload 7, 2) := by decide +kernel
theorem d_Planner_follow_108 : decode M_Planner_follow.2.1 108 = .ok (.if_icmp .ne 41, 3) := by decide +kernel
theorem d_Planner_follow_111 : decode M_Planner_follow.2.1 111 = .ok (.aload_n 0, 1) := by decide +kernel
theorem d_Planner_follow_112 : decode M_Planner_follow.2.1 112 = .ok (.getfield 15, 3) := by decide +kernel
theorem d_Planner_follow_115 : decode M_Planner_follow.2.1 115 = .ok (.iload 5, 2) := by decide +kernel
theorem d_Planner_follow_117 : decode M_Planner_follow.2.1 117 = .ok (.iload 7, 2) := by decide +kernel
theorem d_Planner_follow_119 : decode M_Planner_follow.2.1 119 = .ok (.iastore, 1) := by decide +kernel
theorem d_Planner_follow_120 : decode M_Planner_follow.2.1 120 = .ok (.aload_n 0, 1) := by decide +kernel
theorem d_Planner_follow_121 : decode M_Planner_follow.2.1 121 = .ok (.iload_n 1, 1) := by decide +kernel
theorem d_Planner_follow_122 : decode M_Planner_follow.2.1 122 = .ok (.iconst 1, 1) := by decide +kernel
theorem d_Planner_follow_123 : decode M_Planner_follow.2.1 123 = .ok (.iadd, 1) := by decide +kernel
theorem d_Planner_follow_124 : decode M_Planner_follow.2.1 124 = .ok (.iload 7, 2) := by decide +kernel
theorem d_Planner_follow_126 : decode M_Planner_follow.2.1 126 = .ok (.iload_n 3, 1) := by decide +kernel
theorem d_Planner_follow_127 : decode M_Planner_follow.2.1 127 = .ok (.aload_n 0, 1) := by decide +kernel
theorem d_Planner_follow_128 : decode M_Planner_follow.2.1 128 = .ok (.getfield 9, 3) := by decide +kernel
theorem d_Planner_follow_131 : decode M_Planner_follow.2.1 131 = .ok (.iconst 2, 1) := by decide +kernel
theorem d_Planner_follow_132 : decode M_Planner_follow.2.1 132 = .ok (.iload_n 1, 1) := by decide +kernel
theorem d_Planner_follow_133 : decode M_Planner_follow.2.1 133 = .ok (.imul, 1) := by decide +kernel
theorem d_Planner_follow_134 : decode M_Planner_follow.2.1 134 = .ok (.iload 7, 2) := by decide +kernel
theorem d_Planner_follow_136 : decode M_Planner_follow.2.1 136 = .ok (.iadd, 1) := by decide +kernel
theorem d_Planner_follow_137 : decode M_Planner_follow.2.1 137 = .ok (.iaload, 1) := by decide +kernel
theorem d_Planner_follow_138 : decode M_Planner_follow.2.1 138 = .ok (.iadd, 1) := by decide +kernel
theorem d_Planner_follow_139 : decode M_Planner_follow.2.1 139 = .ok (.iload 4, 2) := by decide +kernel
theorem d_Planner_follow_141 : decode M_Planner_follow.2.1 141 = .ok (.iload 7, 2) := by decide +kernel
theorem d_Planner_follow_143 : decode M_Planner_follow.2.1 143 = .ok (.iload_n 1, 1) := by decide +kernel
theorem d_Planner_follow_144 : decode M_Planner_follow.2.1 144 = .ok (.ishl, 1) := by decide +kernel
theorem d_Planner_follow_145 : decode M_Planner_follow.2.1 145 = .ok (.ior, 1) := by decide +kernel
theorem d_Planner_follow_146 : decode M_Planner_follow.2.1 146 = .ok (.invokevirtual 66, 3) := by decide +kernel
theorem d_Planner_follow_149 : decode M_Planner_follow.2.1 149 = .ok (.iinc 7 1, 3) := by decide +kernel
theorem d_Planner_follow_152 : decode M_Planner_follow.2.1 152 = .ok (.goto (-60), 3) := by decide +kernel
theorem d_Planner_follow_155 : decode M_Planner_follow.2.1 155 = .ok (.aload_n 0, 1) := by decide +kernel
theorem d_Planner_follow_156 : decode M_Planner_follow.2.1 156 = .ok (.getfield 15, 3) := by decide +kernel
theorem d_Planner_follow_159 : decode M_Planner_follow.2.1 159 = .ok (.iload 5, 2) := by decide +kernel
theorem d_Planner_follow_161 : decode M_Planner_follow.2.1 161 = .ok (.iload 6, 2) := by decide +kernel
theorem d_Planner_follow_163 : decode M_Planner_follow.2.1 163 = .ok (.iastore, 1) := by decide +kernel
theorem d_Planner_follow_164 : decode M_Planner_follow.2.1 164 = .ok (.return_, 1) := by decide +kernel
theorem d_Court_provinceGain_0 : decode M_Court_provinceGain.2.1 0 = .ok (.aload_n 0, 1) := by decide +kernel
theorem d_Court_provinceGain_1 : decode M_Court_provinceGain.2.1 1 = .ok (.iload_n 1, 1) := by decide +kernel
theorem d_Court_provinceGain_2 : decode M_Court_provinceGain.2.1 2 = .ok (.iload_n 2, 1) := by decide +kernel
theorem d_Court_provinceGain_3 : decode M_Court_provinceGain.2.1 3 = .ok (.iload_n 3, 1) := by decide +kernel
theorem d_Court_provinceGain_4 : decode M_Court_provinceGain.2.1 4 = .ok (.invokevirtual 43, 3) := by decide +kernel
theorem d_Court_provinceGain_7 : decode M_Court_provinceGain.2.1 7 = .ok (.iconst 0, 1) := by decide +kernel
theorem d_Court_provinceGain_8 : decode M_Court_provinceGain.2.1 8 = .ok (.istore 4, 2) := by decide +kernel
theorem d_Court_provinceGain_10 : decode M_Court_provinceGain.2.1 10 = .ok (.iconst 0, 1) := by decide +kernel
theorem d_Court_provinceGain_11 : decode M_Court_provinceGain.2.1 11 = .ok (.istore 5, 2) := by decide +kernel
theorem d_Court_provinceGain_13 : decode M_Court_provinceGain.2.1 13 = .ok (.iload 5, 2) := by decide +kernel
theorem d_Court_provinceGain_15 : decode M_Court_provinceGain.2.1 15 = .ok (.aload_n 0, 1) := by decide +kernel
theorem d_Court_provinceGain_16 : decode M_Court_provinceGain.2.1 16 = .ok (.getfield 29, 3) := by decide +kernel
theorem d_Court_provinceGain_19 : decode M_Court_provinceGain.2.1 19 = .ok (.getfield 67, 3) := by decide +kernel
theorem d_Court_provinceGain_22 : decode M_Court_provinceGain.2.1 22 = .ok (.if_icmp .ge 37, 3) := by decide +kernel
theorem d_Court_provinceGain_25 : decode M_Court_provinceGain.2.1 25 = .ok (.aload_n 0, 1) := by decide +kernel
theorem d_Court_provinceGain_26 : decode M_Court_provinceGain.2.1 26 = .ok (.getfield 29, 3) := by decide +kernel
theorem d_Court_provinceGain_29 : decode M_Court_provinceGain.2.1 29 = .ok (.iload 5, 2) := by decide +kernel
theorem d_Court_provinceGain_31 : decode M_Court_provinceGain.2.1 31 = .ok (.invokevirtual 91, 3) := by decide +kernel
theorem d_Court_provinceGain_34 : decode M_Court_provinceGain.2.1 34 = .ok (.aload_n 0, 1) := by decide +kernel
theorem d_Court_provinceGain_35 : decode M_Court_provinceGain.2.1 35 = .ok (.getfield 51, 3) := by decide +kernel
theorem d_Court_provinceGain_38 : decode M_Court_provinceGain.2.1 38 = .ok (.if_icmp .ne 15, 3) := by decide +kernel
theorem d_Court_provinceGain_41 : decode M_Court_provinceGain.2.1 41 = .ok (.iload 4, 2) := by decide +kernel
theorem d_Court_provinceGain_43 : decode M_Court_provinceGain.2.1 43 = .ok (.aload_n 0, 1) := by decide +kernel
theorem d_Court_provinceGain_44 : decode M_Court_provinceGain.2.1 44 = .ok (.iload 5, 2) := by decide +kernel
theorem d_Court_provinceGain_46 : decode M_Court_provinceGain.2.1 46 = .ok (.iconst 0, 1) := by decide +kernel
theorem d_Court_provinceGain_47 : decode M_Court_provinceGain.2.1 47 = .ok (.invokevirtual 94, 3) := by decide +kernel
theorem d_Court_provinceGain_50 : decode M_Court_provinceGain.2.1 50 = .ok (.iadd, 1) := by decide +kernel
theorem d_Court_provinceGain_51 : decode M_Court_provinceGain.2.1 51 = .ok (.istore 4, 2) := by decide +kernel
theorem d_Court_provinceGain_53 : decode M_Court_provinceGain.2.1 53 = .ok (.iinc 5 1, 3) := by decide +kernel
theorem d_Court_provinceGain_56 : decode M_Court_provinceGain.2.1 56 = .ok (.goto (-43), 3) := by decide +kernel
theorem d_Court_provinceGain_59 : decode M_Court_provinceGain.2.1 59 = .ok (.iload 4, 2) := by decide +kernel
theorem d_Court_provinceGain_61 : decode M_Court_provinceGain.2.1 61 = .ok (.ireturn, 1) := by decide +kernel
-- Law_asks
def b_Law_asks_25 (q0 : Nat) (V : xV) (k25 : Int32 → Int32 → Int32 → Option (Int32)) (v2 : Int32) (v3 : Int32) (v4 : Int32) : Option (Int32) := (if v3 ≤ v4 then some 0 else (if xI v4 300 = true then (if ¬ (V (q0 + 1) v4.toNatClampNeg) = ((-1) - v2) then k25 v2 v3 (v4 + 1) else some 1) else none))
theorem tb_Law_asks_25 {V : xV} {L : xL} (q0 : Nat) (hq0 : lawB q0 = true) (k25 : Int32 → Int32 → Int32 → Option (Int32)) (res : Int32) (hk25 : ∀ (v2 : Int32) (v3 : Int32) (v4 : Int32), k25 v2 v3 v4 = some res → X M_Law_asks (xRm (2) M_Law_asks) (xZ M_Law_asks (fun o h' => o = some (.int res) ∧ h' = (SH, V, L))) SH V L 0 0 25 [(0, .ref q0), (2, .int v2), (3, .int v3), (4, .int v4)] []) (v2 : Int32) (v3 : Int32) (v4 : Int32) (h : b_Law_asks_25 q0 V k25 v2 v3 v4 = some res) : X M_Law_asks (xRm (2) M_Law_asks) (xZ M_Law_asks (fun o h' => o = some (.int res) ∧ h' = (SH, V, L))) SH V L 0 0 25 [(0, .ref q0), (2, .int v2), (3, .int v3), (4, .int v4)] [] := by
  unfold b_Law_asks_25 at h
  refine x_iload 3 d_Law_asks_25 rfl ?_
  refine x_iload_n 2 d_Law_asks_27 rfl rfl ?_
  refine x_icmp_ge 52 d_Law_asks_28 (by decide) (fun c5 => ?_) (fun c5 => ?_)
  · replace h := xpos c5 h
    refine x_iconst 0 d_Law_asks_52 (by decide) ?_
    obtain rfl := Option.some.inj h
    exact x_zreturn rfl rfl d_Law_asks_53 (Nat.le_refl _) (Nat.le_refl _) ⟨rfl, rfl⟩
  · replace h := xneg c5 h
    refine x_aload_n 0 d_Law_asks_31 rfl rfl ?_
    refine x_getP (q := q0 + 1) f_Law_9 (sh_law hq0) rfl d_Law_asks_32 ?_
    refine x_iload 3 d_Law_asks_35 rfl ?_
    obtain ⟨c6, h⟩ := xguard h
    refine x_iaload (sh_law1 hq0) c6 d_Law_asks_37 ?_
    refine x_iconst (-1) d_Law_asks_38 (by decide) ?_
    refine x_iload_n 1 d_Law_asks_39 rfl rfl ?_
    refine x_isub d_Law_asks_40 ?_
    refine x_icmp_ne 46 d_Law_asks_41 (by decide) (fun c7 => ?_) (fun c7 => ?_)
    · replace h := xpos c7 h
      refine x_iinc 3 1 [(4, .int (v4 + 1)), (0, .ref q0), (2, .int v2), (3, .int v3)] d_Law_asks_46 rfl (by decide) (Nat.le_of_ble_eq_true rfl) rfl ?_
      refine x_goto 25 d_Law_asks_49 (by decide) ?_
      refine x_pick [1, 2, 3, 0] rfl ?_
      exact hk25 v2 v3 (v4 + 1) h
    · replace h := xneg c7 h
      refine x_iconst 1 d_Law_asks_44 (by decide) ?_
      obtain rfl := Option.some.inj h
      exact x_zreturn rfl rfl d_Law_asks_45 (Nat.le_refl _) (Nat.le_refl _) ⟨rfl, rfl⟩
def g_Law_asks_25 (q0 : Nat) (V : xV) : Nat → Int32 → Int32 → Int32 → Option (Int32)
  | 0, _, _, _ => none
  | n + 1, v2, v3, v4 => b_Law_asks_25 q0 V (g_Law_asks_25 q0 V n) v2 v3 v4
theorem tg_Law_asks_25 {V : xV} {L : xL} (q0 : Nat) (hq0 : lawB q0 = true) (res : Int32)  : ∀ (n : Nat) (v2 : Int32) (v3 : Int32) (v4 : Int32), g_Law_asks_25 q0 V n v2 v3 v4 = some res → X M_Law_asks (xRm (2) M_Law_asks) (xZ M_Law_asks (fun o h' => o = some (.int res) ∧ h' = (SH, V, L))) SH V L 0 0 25 [(0, .ref q0), (2, .int v2), (3, .int v3), (4, .int v4)] []
  | 0, _, _, _, h => by cases h
  | n + 1, v2, v3, v4, h => tb_Law_asks_25 (V := V) (L := L) q0 hq0 (g_Law_asks_25 q0 V n) res (tg_Law_asks_25 (V := V) (L := L) q0 hq0 res n) v2 v3 v4 h
def f_Law_asks (q0 : Nat) (a1 : Int32) (a2 : Int32) (V : xV) : Option (Int32) := (Option.bind (f_Law_stopOf q0 a1 V) fun p1 => (Option.bind (f_Law_startOf q0 a1 V) fun p3 => g_Law_asks_25 q0 V 2000 a2 (xmin 300 p1) (xmax 0 p3)))
theorem t_Law_asks (q0 : Nat) (a1 : Int32) (a2 : Int32) (hq0 : lawB q0 = true) (V : xV) (L : xL) (res : Int32) (h : f_Law_asks q0 a1 a2 V = some res) : xRuns (2) M_Law_asks [.ref q0, .int a1, .int a2] (SH, V, L) (fun o h' => o = some (.int res) ∧ h' = (SH, V, L)) := by
  refine xRuns_of (by decide) (Nat.le_of_ble_eq_true rfl) ?_
  unfold f_Law_asks at h
  show X M_Law_asks (xRm (2) M_Law_asks) (xZ M_Law_asks (fun o h' => o = some (.int res) ∧ h' = (SH, V, L))) SH V L 0 0 0 [(0, .ref q0), (1, .int a1), (2, .int a2)] []
  refine x_aload_n 0 d_Law_asks_0 rfl rfl ?_
  refine x_getP (q := q0 + 1) f_Law_9 (sh_law hq0) rfl d_Law_asks_1 ?_
  refine x_alen 300 (sh_law1 hq0) (by decide) (by decide) d_Law_asks_4 ?_
  refine x_aload_n 0 d_Law_asks_5 rfl rfl ?_
  refine x_iload_n 1 d_Law_asks_6 rfl rfl ?_
  obtain ⟨p1, e2, h⟩ := xbind h
  refine x_callV0 e_Law_41 (sh_law hq0) rfl (t_Law_stopOf q0 a1 hq0 V L _ e2) rfl rfl rfl (Nat.le_of_ble_eq_true rfl) (xfit_of (by omega) (Nat.le_of_ble_eq_true rfl)) (Nat.zero_le _) (Nat.zero_le _) d_Law_asks_7 ?_
  refine x_min0 li_Law_45 (xlib_of (by omega)) (Nat.le_of_ble_eq_true rfl) d_Law_asks_10 ?_
  refine x_istore_n [(3, .int (xmin 300 p1)), (0, .ref q0), (1, .int a1), (2, .int a2)] d_Law_asks_13 rfl (Nat.le_of_ble_eq_true rfl) rfl ?_
  refine x_iconst 0 d_Law_asks_14 (by decide) ?_
  refine x_aload_n 1 d_Law_asks_15 rfl rfl ?_
  refine x_iload_n 2 d_Law_asks_16 rfl rfl ?_
  obtain ⟨p3, e4, h⟩ := xbind h
  refine x_callV0 e_Law_51 (sh_law hq0) rfl (t_Law_startOf q0 a1 hq0 V L _ e4) rfl rfl rfl (Nat.le_of_ble_eq_true rfl) (xfit_of (by omega) (Nat.le_of_ble_eq_true rfl)) (Nat.zero_le _) (Nat.zero_le _) d_Law_asks_17 ?_
  refine x_max0 li_Law_54 (xlib_of (by omega)) (Nat.le_of_ble_eq_true rfl) d_Law_asks_20 ?_
  refine x_istore [(4, .int (xmax 0 p3)), (3, .int (xmin 300 p1)), (0, .ref q0), (1, .int a1), (2, .int a2)] d_Law_asks_23 (Nat.le_of_ble_eq_true rfl) rfl ?_
  refine x_pick [2, 4, 1, 0] rfl ?_
  exact tg_Law_asks_25 (V := V) (L := L) q0 hq0 res _ a2 (xmin 300 p1) (xmax 0 p3) h
-- Ww_letGo
def f_Ww_letGo (V : xV) : Option (Int32) := (Option.bind (f_Shelf_ruling V) fun p1 => (if lawB p1 = true then (Option.bind (f_Law_has p1 0 V) fun p4 => (if ¬ p4 = 0 then (Option.bind (f_Law_asks p1 0 13 V) fun p7 => (if p7 = 0 then some 0 else some 1)) else some (-1))) else none))
theorem t_Ww_letGo  (V : xV) (L : xL) (res : Int32) (h : f_Ww_letGo V = some res) : xRuns (3) M_Ww_letGo [.ref 0] (SH, V, L) (fun o h' => o = some (.int res) ∧ h' = (SH, V, L)) := by
  refine xRuns_of (by decide) (Nat.le_of_ble_eq_true rfl) ?_
  unfold f_Ww_letGo at h
  show X M_Ww_letGo (xRm (3) M_Ww_letGo) (xZ M_Ww_letGo (fun o h' => o = some (.int res) ∧ h' = (SH, V, L))) SH V L 0 0 0 [(0, .ref 0)] []
  refine x_aload_n 0 d_Ww_letGo_0 rfl rfl ?_
  refine x_getP (q := 19) f_Ww_31 sh_0 rfl d_Ww_letGo_1 ?_
  obtain ⟨p1, e2, h⟩ := xbind h
  refine x_callV0 e_Ww_141 sh_19 rfl (t_Shelf_ruling V L _ e2) rfl rfl rfl (Nat.le_of_ble_eq_true rfl) (xfit_of (by omega) (Nat.le_of_ble_eq_true rfl)) (Nat.zero_le _) (Nat.zero_le _) d_Ww_letGo_4 ?_
  obtain ⟨c3, h⟩ := xguard h
  refine x_astore_n [(1, .ref p1), (0, .ref 0)] d_Ww_letGo_7 rfl (Nat.le_of_ble_eq_true rfl) rfl ?_
  refine x_aload_n 0 d_Ww_letGo_8 rfl rfl ?_
  refine x_iconst 0 d_Ww_letGo_9 (by decide) ?_
  obtain ⟨p4, e5, h⟩ := xbind h
  refine x_callV0 e_Ww_144 (sh_law c3) rfl (t_Law_has p1 0 c3 V L _ e5) rfl rfl rfl (Nat.le_of_ble_eq_true rfl) (xfit_of (by omega) (Nat.le_of_ble_eq_true rfl)) (Nat.zero_le _) (Nat.zero_le _) d_Ww_letGo_10 ?_
  refine x_if_ne 18 d_Ww_letGo_13 (by decide) (fun c6 => ?_) (fun c6 => ?_)
  · replace h := xpos c6 h
    refine x_aload_n 0 d_Ww_letGo_18 rfl rfl ?_
    refine x_iconst 0 d_Ww_letGo_19 (by decide) ?_
    refine x_bipush 13 d_Ww_letGo_20 (by decide) ?_
    obtain ⟨p7, e8, h⟩ := xbind h
    refine x_callV0 e_Ww_154 (sh_law c3) rfl (t_Law_asks p1 0 13 c3 V L _ e8) rfl rfl rfl (Nat.le_of_ble_eq_true rfl) (xfit_of (by omega) (Nat.le_of_ble_eq_true rfl)) (Nat.zero_le _) (Nat.zero_le _) d_Ww_letGo_22 ?_
    refine x_if_eq 32 d_Ww_letGo_25 (by decide) (fun c9 => ?_) (fun c9 => ?_)
    · replace h := xpos c9 h
      refine x_iconst 0 d_Ww_letGo_32 (by decide) ?_
      obtain rfl := Option.some.inj h
      exact x_ireturn rfl d_Ww_letGo_33 (Nat.le_refl _) (Nat.le_refl _) ⟨rfl, rfl⟩
    · replace h := xneg c9 h
      refine x_iconst 1 d_Ww_letGo_28 (by decide) ?_
      refine x_goto 33 d_Ww_letGo_29 (by decide) ?_
      obtain rfl := Option.some.inj h
      exact x_ireturn rfl d_Ww_letGo_33 (Nat.le_refl _) (Nat.le_refl _) ⟨rfl, rfl⟩
  · replace h := xneg c6 h
    refine x_iconst (-1) d_Ww_letGo_16 (by decide) ?_
    obtain rfl := Option.some.inj h
    exact x_ireturn rfl d_Ww_letGo_17 (Nat.le_refl _) (Nat.le_refl _) ⟨rfl, rfl⟩
-- Rolls_takeBack
def b_Rolls_takeBack_18 (s0 : Int32) (V : xV) : Option (Int32 × xV) := (if (V 1 11) ≤ 0 then some ((-1), V) else (if ¬ (f_Ww_within s0 60) = 0 then (if xI s0 60 = true then (if ¬ (f_Ww_within (V 8 s0.toNatClampNeg) 120) = 0 then (if xI (V 8 s0.toNatClampNeg) 120 = true then (if xI (V 8 s0.toNatClampNeg) 120 = true then some ((10 * ((V 8 s0.toNatClampNeg) / 4)) + (xrem (V 8 s0.toNatClampNeg) 4), x2 (x2 (x2 V 6 ((V 8 s0.toNatClampNeg).toNatClampNeg) (1 - (V 6 (V 8 s0.toNatClampNeg).toNatClampNeg))) 1 12 s0) 1 11 (((x2 (x2 V 6 ((V 8 s0.toNatClampNeg).toNatClampNeg) (1 - (V 6 (V 8 s0.toNatClampNeg).toNatClampNeg))) 1 12 s0) 1 11) - 1)) else none) else none) else some ((-1), V)) else none) else some ((-1), V)))
theorem tb_Rolls_takeBack_18 {L : xL} (res : Int32 × xV)  (s0 : Int32) (V : xV) (h : b_Rolls_takeBack_18 s0 V = some res) : X M_Rolls_takeBack (xRm (2) M_Rolls_takeBack) (xZ M_Rolls_takeBack (fun o h' => o = some (.int res.1) ∧ h' = (SH, res.2, L))) SH V L 0 0 18 [(0, .ref 1)] [.int s0] := by
  unfold b_Rolls_takeBack_18 at h
  refine x_istore_n [(1, .int s0), (0, .ref 1)] d_Rolls_takeBack_18 rfl (Nat.le_of_ble_eq_true rfl) rfl ?_
  refine x_aload_n 1 d_Rolls_takeBack_19 rfl rfl ?_
  refine x_getI f_Rolls_58 sh_1 rfl d_Rolls_takeBack_20 ?_
  refine x_if_le 35 d_Rolls_takeBack_23 (by decide) (fun c2 => ?_) (fun c2 => ?_)
  · replace h := xpos c2 h
    refine x_iconst (-1) d_Rolls_takeBack_35 (by decide) ?_
    obtain rfl := Option.some.inj h
    exact x_ireturn rfl d_Rolls_takeBack_36 (Nat.le_refl _) (Nat.le_refl _) ⟨rfl, rfl⟩
  · replace h := xneg c2 h
    refine x_iload_n 0 d_Rolls_takeBack_26 rfl rfl ?_
    refine x_bipush 60 d_Rolls_takeBack_27 (by decide) ?_
    refine x_callSN0 e_Rolls_64 (t_Ww_within s0 60 V L _ rfl) rfl rfl rfl (Nat.le_of_ble_eq_true rfl) (xfit_of (by omega) (Nat.le_of_ble_eq_true rfl)) (Nat.zero_le _) (Nat.zero_le _) d_Rolls_takeBack_29 ?_
    refine x_if_ne 37 d_Rolls_takeBack_32 (by decide) (fun c4 => ?_) (fun c4 => ?_)
    · replace h := xpos c4 h
      refine x_aload_n 1 d_Rolls_takeBack_37 rfl rfl ?_
      refine x_getP (q := 8) f_Rolls_30 sh_1 rfl d_Rolls_takeBack_38 ?_
      refine x_iload_n 0 d_Rolls_takeBack_41 rfl rfl ?_
      obtain ⟨c5, h⟩ := xguard h
      refine x_iaload sh_8 c5 d_Rolls_takeBack_42 ?_
      refine x_istore_n [(2, .int (V 8 s0.toNatClampNeg)), (1, .int s0), (0, .ref 1)] d_Rolls_takeBack_43 rfl (Nat.le_of_ble_eq_true rfl) rfl ?_
      refine x_iload_n 0 d_Rolls_takeBack_44 rfl rfl ?_
      refine x_aload_n 2 d_Rolls_takeBack_45 rfl rfl ?_
      refine x_getP (q := 6) f_Rolls_24 sh_1 rfl d_Rolls_takeBack_46 ?_
      refine x_alen 120 sh_6 (by decide) (by decide) d_Rolls_takeBack_49 ?_
      refine x_callSN0 e_Rolls_64 (t_Ww_within (V 8 s0.toNatClampNeg) 120 V L _ rfl) rfl rfl rfl (Nat.le_of_ble_eq_true rfl) (xfit_of (by omega) (Nat.le_of_ble_eq_true rfl)) (Nat.zero_le _) (Nat.zero_le _) d_Rolls_takeBack_50 ?_
      refine x_if_ne 58 d_Rolls_takeBack_53 (by decide) (fun c7 => ?_) (fun c7 => ?_)
      · replace h := xpos c7 h
        refine x_aload_n 2 d_Rolls_takeBack_58 rfl rfl ?_
        refine x_getP (q := 6) f_Rolls_24 sh_1 rfl d_Rolls_takeBack_59 ?_
        refine x_iload_n 0 d_Rolls_takeBack_62 rfl rfl ?_
        refine x_iconst 1 d_Rolls_takeBack_63 (by decide) ?_
        refine x_aload_n 2 d_Rolls_takeBack_64 rfl rfl ?_
        refine x_getP (q := 6) f_Rolls_24 sh_1 rfl d_Rolls_takeBack_65 ?_
        refine x_iload_n 0 d_Rolls_takeBack_68 rfl rfl ?_
        obtain ⟨c8, h⟩ := xguard h
        refine x_iaload sh_6 c8 d_Rolls_takeBack_69 ?_
        refine x_isub d_Rolls_takeBack_70 ?_
        obtain ⟨c9, h⟩ := xguard h
        refine x_iastore sh_6 c9 d_Rolls_takeBack_71 ?_
        refine x_aload_n 2 d_Rolls_takeBack_72 rfl rfl ?_
        refine x_iload_n 1 d_Rolls_takeBack_73 rfl rfl ?_
        refine x_putI f_Rolls_61 sh_1 rfl rfl rfl d_Rolls_takeBack_74 ?_
        refine x_aload_n 2 d_Rolls_takeBack_77 rfl rfl ?_
        refine x_dup d_Rolls_takeBack_78 rfl ?_
        refine x_getI f_Rolls_58 sh_1 rfl d_Rolls_takeBack_79 ?_
        refine x_iconst 1 d_Rolls_takeBack_82 (by decide) ?_
        refine x_isub d_Rolls_takeBack_83 ?_
        refine x_putI f_Rolls_58 sh_1 rfl rfl rfl d_Rolls_takeBack_84 ?_
        refine x_bipush 10 d_Rolls_takeBack_87 (by decide) ?_
        refine x_iload_n 0 d_Rolls_takeBack_89 rfl rfl ?_
        refine x_iconst 4 d_Rolls_takeBack_90 (by decide) ?_
        refine x_idiv d_Rolls_takeBack_91 (by decide) ?_
        refine x_imul d_Rolls_takeBack_92 ?_
        refine x_iload_n 0 d_Rolls_takeBack_93 rfl rfl ?_
        refine x_iconst 4 d_Rolls_takeBack_94 (by decide) ?_
        refine x_irem2 d_Rolls_takeBack_95 (by decide) ?_
        refine x_iadd d_Rolls_takeBack_96 ?_
        obtain rfl := Option.some.inj h
        exact x_ireturn rfl d_Rolls_takeBack_97 (Nat.le_refl _) (Nat.le_refl _) ⟨rfl, rfl⟩
      · replace h := xneg c7 h
        refine x_iconst (-1) d_Rolls_takeBack_56 (by decide) ?_
        obtain rfl := Option.some.inj h
        exact x_ireturn rfl d_Rolls_takeBack_57 (Nat.le_refl _) (Nat.le_refl _) ⟨rfl, rfl⟩
    · replace h := xneg c4 h
      refine x_iconst (-1) d_Rolls_takeBack_35 (by decide) ?_
      obtain rfl := Option.some.inj h
      exact x_ireturn rfl d_Rolls_takeBack_36 (Nat.le_refl _) (Nat.le_refl _) ⟨rfl, rfl⟩
def f_Rolls_takeBack (V : xV) : Option (Int32 × xV) := (if (V 1 12) ≤ 0 then b_Rolls_takeBack_18 59 V else b_Rolls_takeBack_18 ((V 1 12) - 1) V)
theorem t_Rolls_takeBack  (V : xV) (L : xL) (res : Int32 × xV) (h : f_Rolls_takeBack V = some res) : xRuns (2) M_Rolls_takeBack [.ref 1] (SH, V, L) (fun o h' => o = some (.int res.1) ∧ h' = (SH, res.2, L)) := by
  refine xRuns_of (by decide) (Nat.le_of_ble_eq_true rfl) ?_
  unfold f_Rolls_takeBack at h
  show X M_Rolls_takeBack (xRm (2) M_Rolls_takeBack) (xZ M_Rolls_takeBack (fun o h' => o = some (.int res.1) ∧ h' = (SH, res.2, L))) SH V L 0 0 0 [(0, .ref 1)] []
  refine x_aload_n 0 d_Rolls_takeBack_0 rfl rfl ?_
  refine x_getI f_Rolls_61 sh_1 rfl d_Rolls_takeBack_1 ?_
  refine x_if_le 16 d_Rolls_takeBack_4 (by decide) (fun c1 => ?_) (fun c1 => ?_)
  · replace h := xpos c1 h
    refine x_bipush 59 d_Rolls_takeBack_16 (by decide) ?_
    exact tb_Rolls_takeBack_18 (L := L) res 59 V h
  · replace h := xneg c1 h
    refine x_aload_n 0 d_Rolls_takeBack_7 rfl rfl ?_
    refine x_getI f_Rolls_61 sh_1 rfl d_Rolls_takeBack_8 ?_
    refine x_iconst 1 d_Rolls_takeBack_11 (by decide) ?_
    refine x_isub d_Rolls_takeBack_12 ?_
    refine x_goto 18 d_Rolls_takeBack_13 (by decide) ?_
    exact tb_Rolls_takeBack_18 (L := L) res ((V 1 12) - 1) V h
-- Ww_undo
def f_Ww_undo (V : xV) : Option (Int32 × xV) := (Option.bind (f_Rolls_takeBack V) fun p1 => some (p1.1, p1.2))
theorem t_Ww_undo  (V : xV) (L : xL) (res : Int32 × xV) (h : f_Ww_undo V = some res) : xRuns (3) M_Ww_undo [.ref 0] (SH, V, L) (fun o h' => o = some (.int res.1) ∧ h' = (SH, res.2, L)) := by
  refine xRuns_of (by decide) (Nat.le_of_ble_eq_true rfl) ?_
  unfold f_Ww_undo at h
  show X M_Ww_undo (xRm (3) M_Ww_undo) (xZ M_Ww_undo (fun o h' => o = some (.int res.1) ∧ h' = (SH, res.2, L))) SH V L 0 0 0 [(0, .ref 0)] []
  refine x_aload_n 0 d_Ww_undo_0 rfl rfl ?_
  refine x_getP (q := 1) f_Ww_10 sh_0 rfl d_Ww_undo_1 ?_
  obtain ⟨p1, e2, h⟩ := xbind h
  refine x_callV0 e_Ww_157 sh_1 rfl (t_Rolls_takeBack V L _ e2) rfl rfl rfl (Nat.le_of_ble_eq_true rfl) (xfit_of (by omega) (Nat.le_of_ble_eq_true rfl)) (Nat.zero_le _) (Nat.zero_le _) d_Ww_undo_4 ?_
  obtain rfl := Option.some.inj h
  exact x_ireturn rfl d_Ww_undo_7 (Nat.le_refl _) (Nat.le_refl _) ⟨rfl, rfl⟩
-- Court_call
def f_Court_call (a1 : Int32) (V : xV) : Option (xV) := (if (f_Ww_within a1 12) = 0 then some V else (if xI a1 12 = true then (Option.bind (f_Bench_tell 15 (V 3 a1.toNatClampNeg) V) fun p4 => (if xI a1 12 = true then (Option.bind (f_Bench_tell 16 (p4 4 a1.toNatClampNeg) p4) fun p7 => (if xI a1 12 = true then (Option.bind (f_Bench_tell 17 (p7 55 a1.toNatClampNeg) p7) fun p10 => some p10) else none)) else none)) else none))
theorem t_Court_call (a1 : Int32) (V : xV) (L : xL) (res : xV) (h : f_Court_call a1 V = some res) : xRuns (3) M_Court_call [.ref 51, .int a1] (SH, V, L) (fun o h' => o = none ∧ h' = (SH, res, L)) := by
  refine xRuns_of (by decide) (Nat.le_of_ble_eq_true rfl) ?_
  unfold f_Court_call at h
  show X M_Court_call (xRm (3) M_Court_call) (xZ M_Court_call (fun o h' => o = none ∧ h' = (SH, res, L))) SH V L 0 0 0 [(0, .ref 51), (1, .int a1)] []
  refine x_iload_n 1 d_Court_call_0 rfl rfl ?_
  refine x_bipush 12 d_Court_call_1 (by decide) ?_
  refine x_callSN0 e_Court_80 (t_Ww_within a1 12 V L _ rfl) rfl rfl rfl (Nat.le_of_ble_eq_true rfl) (xfit_of (by omega) (Nat.le_of_ble_eq_true rfl)) (Nat.zero_le _) (Nat.zero_le _) d_Court_call_3 ?_
  refine x_if_eq 60 d_Court_call_6 (by decide) (fun c2 => ?_) (fun c2 => ?_)
  · replace h := xpos c2 h
    obtain rfl := Option.some.inj h
    exact x_return rfl d_Court_call_60 (Nat.le_refl _) (Nat.le_refl _) ⟨rfl, rfl⟩
  · replace h := xneg c2 h
    refine x_aload_n 0 d_Court_call_9 rfl rfl ?_
    refine x_getP (q := 52) f_Court_18 sh_51 rfl d_Court_call_10 ?_
    refine x_bipush 15 d_Court_call_13 (by decide) ?_
    refine x_aload_n 0 d_Court_call_15 rfl rfl ?_
    refine x_getP (q := 1) f_Court_29 sh_51 rfl d_Court_call_16 ?_
    refine x_getP (q := 3) f_Court_116 sh_1 rfl d_Court_call_19 ?_
    refine x_iload_n 1 d_Court_call_22 rfl rfl ?_
    obtain ⟨c3, h⟩ := xguard h
    refine x_iaload sh_3 c3 d_Court_call_23 ?_
    obtain ⟨p4, e5, h⟩ := xbind h
    refine x_callV0v e_Court_60 sh_52 rfl (t_Bench_tell 15 (V 3 a1.toNatClampNeg) V L _ e5) rfl rfl rfl (Nat.le_of_ble_eq_true rfl) (xfit_of (by omega) (Nat.le_of_ble_eq_true rfl)) (Nat.zero_le _) (Nat.zero_le _) d_Court_call_24 ?_
    refine x_aload_n 0 d_Court_call_27 rfl rfl ?_
    refine x_getP (q := 52) f_Court_18 sh_51 rfl d_Court_call_28 ?_
    refine x_bipush 16 d_Court_call_31 (by decide) ?_
    refine x_aload_n 0 d_Court_call_33 rfl rfl ?_
    refine x_getP (q := 1) f_Court_29 sh_51 rfl d_Court_call_34 ?_
    refine x_getP (q := 4) f_Court_119 sh_1 rfl d_Court_call_37 ?_
    refine x_iload_n 1 d_Court_call_40 rfl rfl ?_
    obtain ⟨c6, h⟩ := xguard h
    refine x_iaload sh_4 c6 d_Court_call_41 ?_
    obtain ⟨p7, e8, h⟩ := xbind h
    refine x_callV0v e_Court_60 sh_52 rfl (t_Bench_tell 16 (p4 4 a1.toNatClampNeg) p4 L _ e8) rfl rfl rfl (Nat.le_of_ble_eq_true rfl) (xfit_of (by omega) (Nat.le_of_ble_eq_true rfl)) (Nat.zero_le _) (Nat.zero_le _) d_Court_call_42 ?_
    refine x_aload_n 0 d_Court_call_45 rfl rfl ?_
    refine x_getP (q := 52) f_Court_18 sh_51 rfl d_Court_call_46 ?_
    refine x_bipush 17 d_Court_call_49 (by decide) ?_
    refine x_aload_n 0 d_Court_call_51 rfl rfl ?_
    refine x_getP (q := 55) f_Court_22 sh_51 rfl d_Court_call_52 ?_
    refine x_iload_n 1 d_Court_call_55 rfl rfl ?_
    obtain ⟨c9, h⟩ := xguard h
    refine x_iaload sh_55 c9 d_Court_call_56 ?_
    obtain ⟨p10, e11, h⟩ := xbind h
    refine x_callV0v e_Court_60 sh_52 rfl (t_Bench_tell 17 (p7 55 a1.toNatClampNeg) p7 L _ e11) rfl rfl rfl (Nat.le_of_ble_eq_true rfl) (xfit_of (by omega) (Nat.le_of_ble_eq_true rfl)) (Nat.zero_le _) (Nat.zero_le _) d_Court_call_57 ?_
    obtain rfl := Option.some.inj h
    exact x_return rfl d_Court_call_60 (Nat.le_refl _) (Nat.le_refl _) ⟨rfl, rfl⟩
-- Court_sit
def b_Court_sit_90 (k90 : Int32 → xV → Option (xV)) (v5 : Int32) (V : xV) : Option (xV) := (if (V 1 7) ≤ v5 then (Option.bind (f_Bench_tell 19 (V 51 0) V) fun p13 => some p13) else (if 12 ≤ v5 then (Option.bind (f_Bench_tell 19 (V 51 0) V) fun p16 => some p16) else (if xI v5 12 = true then (if ¬ (V 2 v5.toNatClampNeg) = (V 51 7) then k90 (v5 + 1) V else (Option.bind (f_Court_call v5 V) fun p20 => (Option.bind (f_Court_comesTo 1 p20) fun p22 => (if xI v5 12 = true then (if xI v5 12 = true then k90 (v5 + 1) (x2 (x2 p22.2 55 v5.toNatClampNeg p22.1) 51 0 (((x2 p22.2 55 v5.toNatClampNeg p22.1) 51 0) + ((x2 p22.2 55 v5.toNatClampNeg p22.1) 55 v5.toNatClampNeg))) else none) else none)))) else none)))
theorem tb_Court_sit_90 {L : xL} (k90 : Int32 → xV → Option (xV)) (res : xV) (hk90 : ∀ (v5 : Int32) (V : xV), k90 v5 V = some res → X M_Court_sit (xRm (4) M_Court_sit) (xZ M_Court_sit (fun o h' => o = none ∧ h' = (SH, res, L))) SH V L 0 0 90 [(0, .ref 51), (5, .int v5)] []) (v5 : Int32) (V : xV) (h : b_Court_sit_90 k90 v5 V = some res) : X M_Court_sit (xRm (4) M_Court_sit) (xZ M_Court_sit (fun o h' => o = none ∧ h' = (SH, res, L))) SH V L 0 0 90 [(0, .ref 51), (5, .int v5)] [] := by
  unfold b_Court_sit_90 at h
  refine x_iload 1 d_Court_sit_90 rfl ?_
  refine x_aload_n 0 d_Court_sit_92 rfl rfl ?_
  refine x_getP (q := 1) f_Court_29 sh_51 rfl d_Court_sit_93 ?_
  refine x_getI f_Court_67 sh_1 rfl d_Court_sit_96 ?_
  refine x_icmp_ge 166 d_Court_sit_99 (by decide) (fun c12 => ?_) (fun c12 => ?_)
  · replace h := xpos c12 h
    refine x_aload_n 0 d_Court_sit_166 rfl rfl ?_
    refine x_getP (q := 52) f_Court_18 sh_51 rfl d_Court_sit_167 ?_
    refine x_bipush 19 d_Court_sit_170 (by decide) ?_
    refine x_aload_n 0 d_Court_sit_172 rfl rfl ?_
    refine x_getI f_Court_64 sh_51 rfl d_Court_sit_173 ?_
    obtain ⟨p13, e14, h⟩ := xbind h
    refine x_callV0v e_Court_60 sh_52 rfl (t_Bench_tell 19 (V 51 0) V L _ e14) rfl rfl rfl (Nat.le_of_ble_eq_true rfl) (xfit_of (by omega) (Nat.le_of_ble_eq_true rfl)) (Nat.zero_le _) (Nat.zero_le _) d_Court_sit_176 ?_
    obtain rfl := Option.some.inj h
    exact x_return rfl d_Court_sit_179 (Nat.le_refl _) (Nat.le_refl _) ⟨rfl, rfl⟩
  · replace h := xneg c12 h
    refine x_iload 1 d_Court_sit_102 rfl ?_
    refine x_bipush 12 d_Court_sit_104 (by decide) ?_
    refine x_icmp_ge 166 d_Court_sit_106 (by decide) (fun c15 => ?_) (fun c15 => ?_)
    · replace h := xpos c15 h
      refine x_aload_n 0 d_Court_sit_166 rfl rfl ?_
      refine x_getP (q := 52) f_Court_18 sh_51 rfl d_Court_sit_167 ?_
      refine x_bipush 19 d_Court_sit_170 (by decide) ?_
      refine x_aload_n 0 d_Court_sit_172 rfl rfl ?_
      refine x_getI f_Court_64 sh_51 rfl d_Court_sit_173 ?_
      obtain ⟨p16, e17, h⟩ := xbind h
      refine x_callV0v e_Court_60 sh_52 rfl (t_Bench_tell 19 (V 51 0) V L _ e17) rfl rfl rfl (Nat.le_of_ble_eq_true rfl) (xfit_of (by omega) (Nat.le_of_ble_eq_true rfl)) (Nat.zero_le _) (Nat.zero_le _) d_Court_sit_176 ?_
      obtain rfl := Option.some.inj h
      exact x_return rfl d_Court_sit_179 (Nat.le_refl _) (Nat.le_refl _) ⟨rfl, rfl⟩
    · replace h := xneg c15 h
      refine x_aload_n 0 d_Court_sit_109 rfl rfl ?_
      refine x_getP (q := 1) f_Court_29 sh_51 rfl d_Court_sit_110 ?_
      refine x_getP (q := 2) f_Court_70 sh_1 rfl d_Court_sit_113 ?_
      refine x_iload 1 d_Court_sit_116 rfl ?_
      obtain ⟨c18, h⟩ := xguard h
      refine x_iaload sh_2 c18 d_Court_sit_118 ?_
      refine x_aload_n 0 d_Court_sit_119 rfl rfl ?_
      refine x_getI f_Court_51 sh_51 rfl d_Court_sit_120 ?_
      refine x_icmp_ne 160 d_Court_sit_123 (by decide) (fun c19 => ?_) (fun c19 => ?_)
      · replace h := xpos c19 h
        refine x_iinc 1 1 [(5, .int (v5 + 1)), (0, .ref 51)] d_Court_sit_160 rfl (by decide) (Nat.le_of_ble_eq_true rfl) rfl ?_
        refine x_goto 90 d_Court_sit_163 (by decide) ?_
        refine x_pick [1, 0] rfl ?_
        exact hk90 (v5 + 1) V h
      · replace h := xneg c19 h
        refine x_aload_n 0 d_Court_sit_126 rfl rfl ?_
        refine x_iload 1 d_Court_sit_127 rfl ?_
        obtain ⟨p20, e21, h⟩ := xbind h
        refine x_callV0v e_Court_73 sh_51 rfl (t_Court_call v5 V L _ e21) rfl rfl rfl (Nat.le_of_ble_eq_true rfl) (xfit_of (by omega) (Nat.le_of_ble_eq_true rfl)) (Nat.zero_le _) (Nat.zero_le _) d_Court_sit_129 ?_
        refine x_aload_n 0 d_Court_sit_132 rfl rfl ?_
        refine x_getP (q := 55) f_Court_22 sh_51 rfl d_Court_sit_133 ?_
        refine x_iload 1 d_Court_sit_136 rfl ?_
        refine x_aload_n 0 d_Court_sit_138 rfl rfl ?_
        refine x_iconst 1 d_Court_sit_139 (by decide) ?_
        obtain ⟨p22, e23, h⟩ := xbind h
        refine x_callV0 e_Court_77 sh_51 rfl (t_Court_comesTo 1 p20 L _ e23) rfl rfl rfl (Nat.le_of_ble_eq_true rfl) (xfit_of (by omega) (Nat.le_of_ble_eq_true rfl)) (Nat.zero_le _) (Nat.zero_le _) d_Court_sit_140 ?_
        obtain ⟨c24, h⟩ := xguard h
        refine x_iastore sh_55 c24 d_Court_sit_143 ?_
        refine x_aload_n 0 d_Court_sit_144 rfl rfl ?_
        refine x_dup d_Court_sit_145 rfl ?_
        refine x_getI f_Court_64 sh_51 rfl d_Court_sit_146 ?_
        refine x_aload_n 0 d_Court_sit_149 rfl rfl ?_
        refine x_getP (q := 55) f_Court_22 sh_51 rfl d_Court_sit_150 ?_
        refine x_iload 1 d_Court_sit_153 rfl ?_
        obtain ⟨c25, h⟩ := xguard h
        refine x_iaload sh_55 c25 d_Court_sit_155 ?_
        refine x_iadd d_Court_sit_156 ?_
        refine x_putI f_Court_64 sh_51 rfl rfl rfl d_Court_sit_157 ?_
        refine x_iinc 1 1 [(5, .int (v5 + 1)), (0, .ref 51)] d_Court_sit_160 rfl (by decide) (Nat.le_of_ble_eq_true rfl) rfl ?_
        refine x_goto 90 d_Court_sit_163 (by decide) ?_
        refine x_pick [1, 0] rfl ?_
        exact hk90 (v5 + 1) (x2 (x2 p22.2 55 v5.toNatClampNeg p22.1) 51 0 (((x2 p22.2 55 v5.toNatClampNeg p22.1) 51 0) + ((x2 p22.2 55 v5.toNatClampNeg p22.1) 55 v5.toNatClampNeg))) h
def g_Court_sit_90  : Nat → Int32 → xV → Option (xV)
  | 0, _, _ => none
  | n + 1, v5, V => b_Court_sit_90 (g_Court_sit_90  n) v5 V
theorem tg_Court_sit_90 {L : xL} (res : xV)  : ∀ (n : Nat) (v5 : Int32) (V : xV), g_Court_sit_90  n v5 V = some res → X M_Court_sit (xRm (4) M_Court_sit) (xZ M_Court_sit (fun o h' => o = none ∧ h' = (SH, res, L))) SH V L 0 0 90 [(0, .ref 51), (5, .int v5)] []
  | 0, _, _, h => by cases h
  | n + 1, v5, V, h => tb_Court_sit_90 (L := L) (g_Court_sit_90  n) res (tg_Court_sit_90 (L := L) res n) v5 V h
def b_Court_sit_32 (v1 : Int32) (v4 : Int32) (s0 : Int32) (V : xV) : Option (xV) := (Option.bind (f_Bench_tell 9 v1 (x2 V 51 8 s0)) fun p4 => (Option.bind (f_Bench_tell 10 (p4 51 7) p4) fun p6 => (Option.bind (f_Bench_tell 13 v4 p6) fun p8 => (Option.bind (f_Bench_tell 14 (p8 51 9) p8) fun p10 => g_Court_sit_90 2000 0 (x2 p10 51 0 0)))))
theorem tb_Court_sit_32 {L : xL} (res : xV)  (v1 : Int32) (v4 : Int32) (s0 : Int32) (V : xV) (h : b_Court_sit_32 v1 v4 s0 V = some res) : X M_Court_sit (xRm (4) M_Court_sit) (xZ M_Court_sit (fun o h' => o = none ∧ h' = (SH, res, L))) SH V L 0 0 32 [(0, .ref 51), (1, .int v1), (4, .int v4)] [.int s0, .ref 51] := by
  unfold b_Court_sit_32 at h
  refine x_putI f_Court_57 sh_51 rfl rfl rfl d_Court_sit_32 ?_
  refine x_aload_n 0 d_Court_sit_35 rfl rfl ?_
  refine x_getP (q := 52) f_Court_18 sh_51 rfl d_Court_sit_36 ?_
  refine x_bipush 9 d_Court_sit_39 (by decide) ?_
  refine x_iload_n 1 d_Court_sit_41 rfl rfl ?_
  obtain ⟨p4, e5, h⟩ := xbind h
  refine x_callV0v e_Court_60 sh_52 rfl (t_Bench_tell 9 v1 (x2 V 51 8 s0) L _ e5) rfl rfl rfl (Nat.le_of_ble_eq_true rfl) (xfit_of (by omega) (Nat.le_of_ble_eq_true rfl)) (Nat.zero_le _) (Nat.zero_le _) d_Court_sit_42 ?_
  refine x_aload_n 0 d_Court_sit_45 rfl rfl ?_
  refine x_getP (q := 52) f_Court_18 sh_51 rfl d_Court_sit_46 ?_
  refine x_bipush 10 d_Court_sit_49 (by decide) ?_
  refine x_aload_n 0 d_Court_sit_51 rfl rfl ?_
  refine x_getI f_Court_51 sh_51 rfl d_Court_sit_52 ?_
  obtain ⟨p6, e7, h⟩ := xbind h
  refine x_callV0v e_Court_60 sh_52 rfl (t_Bench_tell 10 (p4 51 7) p4 L _ e7) rfl rfl rfl (Nat.le_of_ble_eq_true rfl) (xfit_of (by omega) (Nat.le_of_ble_eq_true rfl)) (Nat.zero_le _) (Nat.zero_le _) d_Court_sit_55 ?_
  refine x_aload_n 0 d_Court_sit_58 rfl rfl ?_
  refine x_getP (q := 52) f_Court_18 sh_51 rfl d_Court_sit_59 ?_
  refine x_bipush 13 d_Court_sit_62 (by decide) ?_
  refine x_iload 2 d_Court_sit_64 rfl ?_
  obtain ⟨p8, e9, h⟩ := xbind h
  refine x_callV0v e_Court_60 sh_52 rfl (t_Bench_tell 13 v4 p6 L _ e9) rfl rfl rfl (Nat.le_of_ble_eq_true rfl) (xfit_of (by omega) (Nat.le_of_ble_eq_true rfl)) (Nat.zero_le _) (Nat.zero_le _) d_Court_sit_66 ?_
  refine x_aload_n 0 d_Court_sit_69 rfl rfl ?_
  refine x_getP (q := 52) f_Court_18 sh_51 rfl d_Court_sit_70 ?_
  refine x_bipush 14 d_Court_sit_73 (by decide) ?_
  refine x_aload_n 0 d_Court_sit_75 rfl rfl ?_
  refine x_getI f_Court_54 sh_51 rfl d_Court_sit_76 ?_
  obtain ⟨p10, e11, h⟩ := xbind h
  refine x_callV0v e_Court_60 sh_52 rfl (t_Bench_tell 14 (p8 51 9) p8 L _ e11) rfl rfl rfl (Nat.le_of_ble_eq_true rfl) (xfit_of (by omega) (Nat.le_of_ble_eq_true rfl)) (Nat.zero_le _) (Nat.zero_le _) d_Court_sit_79 ?_
  refine x_aload_n 0 d_Court_sit_82 rfl rfl ?_
  refine x_iconst 0 d_Court_sit_83 (by decide) ?_
  refine x_putI f_Court_64 sh_51 rfl rfl rfl d_Court_sit_84 ?_
  refine x_iconst 0 d_Court_sit_87 (by decide) ?_
  refine x_istore [(5, .int 0), (0, .ref 51), (1, .int v1), (4, .int v4)] d_Court_sit_88 (Nat.le_of_ble_eq_true rfl) rfl ?_
  refine x_pick [1, 0] rfl ?_
  exact tg_Court_sit_90 (L := L) res _ 0 (x2 p10 51 0 0) h
def f_Court_sit (a1 : Int32) (a2 : Int32) (a3 : Int32) (V : xV) : Option (xV) := (Option.bind (f_Rolls_skyOf a1 V) fun p1 => (if p1 < 5 then b_Court_sit_32 a1 p1 0 (x2 (x2 V 51 7 a2) 51 9 a3) else b_Court_sit_32 a1 p1 1 (x2 (x2 V 51 7 a2) 51 9 a3)))
theorem t_Court_sit (a1 : Int32) (a2 : Int32) (a3 : Int32) (V : xV) (L : xL) (res : xV) (h : f_Court_sit a1 a2 a3 V = some res) : xRuns (4) M_Court_sit [.ref 51, .int a1, .int a2, .int a3] (SH, V, L) (fun o h' => o = none ∧ h' = (SH, res, L)) := by
  refine xRuns_of (by decide) (Nat.le_of_ble_eq_true rfl) ?_
  unfold f_Court_sit at h
  show X M_Court_sit (xRm (4) M_Court_sit) (xZ M_Court_sit (fun o h' => o = none ∧ h' = (SH, res, L))) SH V L 0 0 0 [(0, .ref 51), (1, .int a1), (2, .int a2), (3, .int a3)] []
  refine x_aload_n 0 d_Court_sit_0 rfl rfl ?_
  refine x_getP (q := 1) f_Court_29 sh_51 rfl d_Court_sit_1 ?_
  refine x_iload_n 1 d_Court_sit_4 rfl rfl ?_
  obtain ⟨p1, e2, h⟩ := xbind h
  refine x_callV0 e_Court_47 sh_1 rfl (t_Rolls_skyOf a1 V L _ e2) rfl rfl rfl (Nat.le_of_ble_eq_true rfl) (xfit_of (by omega) (Nat.le_of_ble_eq_true rfl)) (Nat.zero_le _) (Nat.zero_le _) d_Court_sit_5 ?_
  refine x_istore [(4, .int p1), (0, .ref 51), (1, .int a1), (2, .int a2), (3, .int a3)] d_Court_sit_8 (Nat.le_of_ble_eq_true rfl) rfl ?_
  refine x_aload_n 1 d_Court_sit_10 rfl rfl ?_
  refine x_iload_n 3 d_Court_sit_11 rfl rfl ?_
  refine x_putI f_Court_51 sh_51 rfl rfl rfl d_Court_sit_12 ?_
  refine x_aload_n 1 d_Court_sit_15 rfl rfl ?_
  refine x_iload_n 4 d_Court_sit_16 rfl rfl ?_
  refine x_putI f_Court_54 sh_51 rfl rfl rfl d_Court_sit_17 ?_
  refine x_aload_n 1 d_Court_sit_20 rfl rfl ?_
  refine x_iload 0 d_Court_sit_21 rfl ?_
  refine x_iconst 5 d_Court_sit_23 (by decide) ?_
  refine x_icmp_lt 31 d_Court_sit_24 (by decide) (fun c3 => ?_) (fun c3 => ?_)
  · replace h := xpos c3 h
    refine x_iconst 0 d_Court_sit_31 (by decide) ?_
    refine x_pick [1, 2, 0] rfl ?_
    exact tb_Court_sit_32 (L := L) res a1 p1 0 (x2 (x2 V 51 7 a2) 51 9 a3) h
  · replace h := xneg c3 h
    refine x_iconst 1 d_Court_sit_27 (by decide) ?_
    refine x_goto 32 d_Court_sit_28 (by decide) ?_
    refine x_pick [1, 2, 0] rfl ?_
    exact tb_Court_sit_32 (L := L) res a1 p1 1 (x2 (x2 V 51 7 a2) 51 9 a3) h
-- Court_sitAsItIs
def f_Court_sitAsItIs (a1 : Int32) (a2 : Int32) (V : xV) : Option (xV) := (Option.bind (f_Rolls_decreeOf a1 a2 V) fun p1 => (Option.bind (f_Court_sit a1 a2 p1 V) fun p3 => some p3))
theorem t_Court_sitAsItIs (a1 : Int32) (a2 : Int32) (V : xV) (L : xL) (res : xV) (h : f_Court_sitAsItIs a1 a2 V = some res) : xRuns (5) M_Court_sitAsItIs [.ref 51, .int a1, .int a2] (SH, V, L) (fun o h' => o = none ∧ h' = (SH, res, L)) := by
  refine xRuns_of (by decide) (Nat.le_of_ble_eq_true rfl) ?_
  unfold f_Court_sitAsItIs at h
  show X M_Court_sitAsItIs (xRm (5) M_Court_sitAsItIs) (xZ M_Court_sitAsItIs (fun o h' => o = none ∧ h' = (SH, res, L))) SH V L 0 0 0 [(0, .ref 51), (1, .int a1), (2, .int a2)] []
  refine x_aload_n 0 d_Court_sitAsItIs_0 rfl rfl ?_
  refine x_iload_n 1 d_Court_sitAsItIs_1 rfl rfl ?_
  refine x_iload_n 2 d_Court_sitAsItIs_2 rfl rfl ?_
  refine x_aload_n 0 d_Court_sitAsItIs_3 rfl rfl ?_
  refine x_getP (q := 1) f_Court_29 sh_51 rfl d_Court_sitAsItIs_4 ?_
  refine x_iload_n 1 d_Court_sitAsItIs_7 rfl rfl ?_
  refine x_iload_n 2 d_Court_sitAsItIs_8 rfl rfl ?_
  obtain ⟨p1, e2, h⟩ := xbind h
  refine x_callV0 e_Court_37 sh_1 rfl (t_Rolls_decreeOf a1 a2 V L _ e2) rfl rfl rfl (Nat.le_of_ble_eq_true rfl) (xfit_of (by omega) (Nat.le_of_ble_eq_true rfl)) (Nat.zero_le _) (Nat.zero_le _) d_Court_sitAsItIs_9 ?_
  obtain ⟨p3, e4, h⟩ := xbind h
  refine x_callV0v e_Court_43 sh_51 rfl (t_Court_sit a1 a2 p1 V L _ e4) rfl rfl rfl (Nat.le_of_ble_eq_true rfl) (xfit_of (by omega) (Nat.le_of_ble_eq_true rfl)) (Nat.zero_le _) (Nat.zero_le _) d_Court_sitAsItIs_12 ?_
  obtain rfl := Option.some.inj h
  exact x_return rfl d_Court_sitAsItIs_15 (Nat.le_refl _) (Nat.le_refl _) ⟨rfl, rfl⟩
-- Ww_of
def f_Ww_of (a1 : Int32) (a2 : Int32) (a3 : Int32) (V : xV) : Option (Int32 × xV) := (if (f_Ww_within a1 30) = 0 then some ((-1), V) else (if ¬ (f_Ww_within a2 4) = 0 then (if a3 = 0 then (if xI a1 30 = true then some (V 5 a1.toNatClampNeg, V) else none) else (if a3 = 1 then (Option.bind (f_Rolls_decreeOf a1 a2 V) fun p8 => some (p8, V)) else (if a3 = 2 then (Option.bind (f_Court_sitAsItIs a1 a2 V) fun p11 => some (p11 51 0, p11)) else some ((-1), V)))) else some ((-1), V)))
theorem t_Ww_of (a1 : Int32) (a2 : Int32) (a3 : Int32) (V : xV) (L : xL) (res : Int32 × xV) (h : f_Ww_of a1 a2 a3 V = some res) : xRuns (6) M_Ww_of [.ref 0, .int a1, .int a2, .int a3] (SH, V, L) (fun o h' => o = some (.int res.1) ∧ h' = (SH, res.2, L)) := by
  refine xRuns_of (by decide) (Nat.le_of_ble_eq_true rfl) ?_
  unfold f_Ww_of at h
  show X M_Ww_of (xRm (6) M_Ww_of) (xZ M_Ww_of (fun o h' => o = some (.int res.1) ∧ h' = (SH, res.2, L))) SH V L 0 0 0 [(0, .ref 0), (1, .int a1), (2, .int a2), (3, .int a3)] []
  refine x_iload_n 1 d_Ww_of_0 rfl rfl ?_
  refine x_bipush 30 d_Ww_of_1 (by decide) ?_
  refine x_callS0 e_Ww_80 (t_Ww_within a1 30 V L _ rfl) rfl rfl rfl (Nat.le_of_ble_eq_true rfl) (xfit_of (by omega) (Nat.le_of_ble_eq_true rfl)) (Nat.zero_le _) (Nat.zero_le _) d_Ww_of_3 ?_
  refine x_if_eq 17 d_Ww_of_6 (by decide) (fun c2 => ?_) (fun c2 => ?_)
  · replace h := xpos c2 h
    refine x_iconst (-1) d_Ww_of_17 (by decide) ?_
    obtain rfl := Option.some.inj h
    exact x_ireturn rfl d_Ww_of_18 (Nat.le_refl _) (Nat.le_refl _) ⟨rfl, rfl⟩
  · replace h := xneg c2 h
    refine x_iload_n 2 d_Ww_of_9 rfl rfl ?_
    refine x_iconst 4 d_Ww_of_10 (by decide) ?_
    refine x_callS0 e_Ww_80 (t_Ww_within a2 4 V L _ rfl) rfl rfl rfl (Nat.le_of_ble_eq_true rfl) (xfit_of (by omega) (Nat.le_of_ble_eq_true rfl)) (Nat.zero_le _) (Nat.zero_le _) d_Ww_of_11 ?_
    refine x_if_ne 19 d_Ww_of_14 (by decide) (fun c4 => ?_) (fun c4 => ?_)
    · replace h := xpos c4 h
      refine x_iload_n 3 d_Ww_of_19 rfl rfl ?_
      by_cases c5 : a3 = 0
      · replace h := xpos c5 h
        refine x_tableIn 28 48 d_Ww_of_20 (by rw [c5]; decide) (by rw [c5]; decide) (by rw [c5]; rfl) (by decide) ?_
        refine x_aload_n 0 d_Ww_of_48 rfl rfl ?_
        refine x_getP (q := 1) f_Ww_10 sh_0 rfl d_Ww_of_49 ?_
        refine x_getP (q := 5) f_Ww_88 sh_1 rfl d_Ww_of_52 ?_
        refine x_iload_n 1 d_Ww_of_55 rfl rfl ?_
        obtain ⟨c6, h⟩ := xguard h
        refine x_iaload sh_5 c6 d_Ww_of_56 ?_
        obtain rfl := Option.some.inj h
        exact x_ireturn rfl d_Ww_of_57 (Nat.le_refl _) (Nat.le_refl _) ⟨rfl, rfl⟩
      replace h := xneg c5 h
      by_cases c7 : a3 = 1
      · replace h := xpos c7 h
        refine x_tableIn 38 58 d_Ww_of_20 (by rw [c7]; decide) (by rw [c7]; decide) (by rw [c7]; rfl) (by decide) ?_
        refine x_aload_n 0 d_Ww_of_58 rfl rfl ?_
        refine x_getP (q := 1) f_Ww_10 sh_0 rfl d_Ww_of_59 ?_
        refine x_iload_n 1 d_Ww_of_62 rfl rfl ?_
        refine x_iload_n 2 d_Ww_of_63 rfl rfl ?_
        obtain ⟨p8, e9, h⟩ := xbind h
        refine x_callV0 e_Ww_160 sh_1 rfl (t_Rolls_decreeOf a1 a2 V L _ e9) rfl rfl rfl (Nat.le_of_ble_eq_true rfl) (xfit_of (by omega) (Nat.le_of_ble_eq_true rfl)) (Nat.zero_le _) (Nat.zero_le _) d_Ww_of_64 ?_
        obtain rfl := Option.some.inj h
        exact x_ireturn rfl d_Ww_of_67 (Nat.le_refl _) (Nat.le_refl _) ⟨rfl, rfl⟩
      replace h := xneg c7 h
      by_cases c10 : a3 = 2
      · replace h := xpos c10 h
        refine x_tableIn 48 68 d_Ww_of_20 (by rw [c10]; decide) (by rw [c10]; decide) (by rw [c10]; rfl) (by decide) ?_
        refine x_aload_n 0 d_Ww_of_68 rfl rfl ?_
        refine x_getP (q := 51) f_Ww_53 sh_0 rfl d_Ww_of_69 ?_
        refine x_iload_n 1 d_Ww_of_72 rfl rfl ?_
        refine x_iload_n 2 d_Ww_of_73 rfl rfl ?_
        obtain ⟨p11, e12, h⟩ := xbind h
        refine x_callV0v e_Ww_163 sh_51 rfl (t_Court_sitAsItIs a1 a2 V L _ e12) rfl rfl rfl (Nat.le_of_ble_eq_true rfl) (xfit_of (by omega) (Nat.le_of_ble_eq_true rfl)) (Nat.zero_le _) (Nat.zero_le _) d_Ww_of_74 ?_
        refine x_aload_n 0 d_Ww_of_77 rfl rfl ?_
        refine x_getP (q := 51) f_Ww_53 sh_0 rfl d_Ww_of_78 ?_
        refine x_getI f_Ww_167 sh_51 rfl d_Ww_of_81 ?_
        obtain rfl := Option.some.inj h
        exact x_ireturn rfl d_Ww_of_84 (Nat.le_refl _) (Nat.le_refl _) ⟨rfl, rfl⟩
      replace h := xneg c10 h
      refine x_tableOut 85 d_Ww_of_20 (by have n0 := lv_neT c5 (a := 0) rfl; have n1 := lv_neT c7 (a := 1) rfl; have n2 := lv_neT c10 (a := 2) rfl; omega) (by decide) ?_
      refine x_iconst (-1) d_Ww_of_85 (by decide) ?_
      obtain rfl := Option.some.inj h
      exact x_ireturn rfl d_Ww_of_86 (Nat.le_refl _) (Nat.le_refl _) ⟨rfl, rfl⟩
    · replace h := xneg c4 h
      refine x_iconst (-1) d_Ww_of_17 (by decide) ?_
      obtain rfl := Option.some.inj h
      exact x_ireturn rfl d_Ww_of_18 (Nat.le_refl _) (Nat.le_refl _) ⟨rfl, rfl⟩
-- Rolls_homeOf
def f_Rolls_homeOf (a1 : Int32) (V : xV) : Option (Int32) := (if (f_Ww_within a1 12) = 0 then some 0 else (if xI a1 12 = true then some (V 2 a1.toNatClampNeg) else none))
theorem t_Rolls_homeOf (a1 : Int32) (V : xV) (L : xL) (res : Int32) (h : f_Rolls_homeOf a1 V = some res) : xRuns (2) M_Rolls_homeOf [.ref 1, .int a1] (SH, V, L) (fun o h' => o = some (.int res) ∧ h' = (SH, V, L)) := by
  refine xRuns_of (by decide) (Nat.le_of_ble_eq_true rfl) ?_
  unfold f_Rolls_homeOf at h
  show X M_Rolls_homeOf (xRm (2) M_Rolls_homeOf) (xZ M_Rolls_homeOf (fun o h' => o = some (.int res) ∧ h' = (SH, V, L))) SH V L 0 0 0 [(0, .ref 1), (1, .int a1)] []
  refine x_iload_n 1 d_Rolls_homeOf_0 rfl rfl ?_
  refine x_bipush 12 d_Rolls_homeOf_1 (by decide) ?_
  refine x_callSN0 e_Rolls_64 (t_Ww_within a1 12 V L _ rfl) rfl rfl rfl (Nat.le_of_ble_eq_true rfl) (xfit_of (by omega) (Nat.le_of_ble_eq_true rfl)) (Nat.zero_le _) (Nat.zero_le _) d_Rolls_homeOf_3 ?_
  refine x_if_eq 18 d_Rolls_homeOf_6 (by decide) (fun c2 => ?_) (fun c2 => ?_)
  · replace h := xpos c2 h
    refine x_iconst 0 d_Rolls_homeOf_18 (by decide) ?_
    obtain rfl := Option.some.inj h
    exact x_ireturn rfl d_Rolls_homeOf_19 (Nat.le_refl _) (Nat.le_refl _) ⟨rfl, rfl⟩
  · replace h := xneg c2 h
    refine x_aload_n 0 d_Rolls_homeOf_9 rfl rfl ?_
    refine x_getP (q := 2) f_Rolls_9 sh_1 rfl d_Rolls_homeOf_10 ?_
    refine x_iload_n 1 d_Rolls_homeOf_13 rfl rfl ?_
    obtain ⟨c3, h⟩ := xguard h
    refine x_iaload sh_2 c3 d_Rolls_homeOf_14 ?_
    refine x_goto 19 d_Rolls_homeOf_15 (by decide) ?_
    obtain rfl := Option.some.inj h
    exact x_ireturn rfl d_Rolls_homeOf_19 (Nat.le_refl _) (Nat.le_refl _) ⟨rfl, rfl⟩
-- Court_actOf
def f_Court_actOf (a1 : Int32) (V : xV) : Option (Int32) := (if (f_Ww_within a1 12) = 0 then some 0 else (if xI a1 12 = true then some (V 55 a1.toNatClampNeg) else none))
theorem t_Court_actOf (a1 : Int32) (V : xV) (L : xL) (res : Int32) (h : f_Court_actOf a1 V = some res) : xRuns (2) M_Court_actOf [.ref 51, .int a1] (SH, V, L) (fun o h' => o = some (.int res) ∧ h' = (SH, V, L)) := by
  refine xRuns_of (by decide) (Nat.le_of_ble_eq_true rfl) ?_
  unfold f_Court_actOf at h
  show X M_Court_actOf (xRm (2) M_Court_actOf) (xZ M_Court_actOf (fun o h' => o = some (.int res) ∧ h' = (SH, V, L))) SH V L 0 0 0 [(0, .ref 51), (1, .int a1)] []
  refine x_iload_n 1 d_Court_actOf_0 rfl rfl ?_
  refine x_bipush 12 d_Court_actOf_1 (by decide) ?_
  refine x_callSN0 e_Court_80 (t_Ww_within a1 12 V L _ rfl) rfl rfl rfl (Nat.le_of_ble_eq_true rfl) (xfit_of (by omega) (Nat.le_of_ble_eq_true rfl)) (Nat.zero_le _) (Nat.zero_le _) d_Court_actOf_3 ?_
  refine x_if_eq 18 d_Court_actOf_6 (by decide) (fun c2 => ?_) (fun c2 => ?_)
  · replace h := xpos c2 h
    refine x_iconst 0 d_Court_actOf_18 (by decide) ?_
    obtain rfl := Option.some.inj h
    exact x_ireturn rfl d_Court_actOf_19 (Nat.le_refl _) (Nat.le_refl _) ⟨rfl, rfl⟩
  · replace h := xneg c2 h
    refine x_aload_n 0 d_Court_actOf_9 rfl rfl ?_
    refine x_getP (q := 55) f_Court_22 sh_51 rfl d_Court_actOf_10 ?_
    refine x_iload_n 1 d_Court_actOf_13 rfl rfl ?_
    obtain ⟨c3, h⟩ := xguard h
    refine x_iaload sh_55 c3 d_Court_actOf_14 ?_
    refine x_goto 19 d_Court_actOf_15 (by decide) ?_
    obtain rfl := Option.some.inj h
    exact x_ireturn rfl d_Court_actOf_19 (Nat.le_refl _) (Nat.le_refl _) ⟨rfl, rfl⟩
-- Ww_between
def f_Ww_between (a0 : Int32) (a1 : Int32) (a2 : Int32) : Int32 := (xmax a1 (xmin a2 a0))
theorem t_Ww_between (a0 : Int32) (a1 : Int32) (a2 : Int32) (V : xV) (L : xL) (res : Int32) (h : f_Ww_between a0 a1 a2 = res) : xRuns (1) M_Ww_between [.int a0, .int a1, .int a2] (SH, V, L) (fun o h' => o = some (.int res) ∧ h' = (SH, V, L)) := by
  refine xRuns_of (by decide) (Nat.le_of_ble_eq_true rfl) ?_
  unfold f_Ww_between at h
  show X M_Ww_between (xRm (1) M_Ww_between) (xZ M_Ww_between (fun o h' => o = some (.int res) ∧ h' = (SH, V, L))) SH V L 0 0 0 [(0, .int a0), (1, .int a1), (2, .int a2)] []
  refine x_iload_n 1 d_Ww_between_0 rfl rfl ?_
  refine x_iload_n 2 d_Ww_between_1 rfl rfl ?_
  refine x_iload_n 0 d_Ww_between_2 rfl rfl ?_
  refine x_min0 li_Ww_266 (xlib_of (by omega)) (Nat.le_of_ble_eq_true rfl) d_Ww_between_3 ?_
  refine x_max0 li_Ww_206 (xlib_of (by omega)) (Nat.le_of_ble_eq_true rfl) d_Ww_between_6 ?_
  obtain rfl := h
  exact x_ireturn rfl d_Ww_between_9 (Nat.le_refl _) (Nat.le_refl _) ⟨rfl, rfl⟩
-- Court_fineOf
def f_Court_fineOf (a1 : Int32) (V : xV) : Option (Int32 × xV) := (Option.bind (f_Court_call a1 V) fun p1 => (Option.bind (f_Court_comesTo 4 p1) fun p3 => (if ¬ p3.1 = 1 then (Option.bind (f_Court_comesTo 3 p3.2) fun p6 => some ((f_Ww_between p6.1 0 999), p6.2)) else some (0, p3.2))))
theorem t_Court_fineOf (a1 : Int32) (V : xV) (L : xL) (res : Int32 × xV) (h : f_Court_fineOf a1 V = some res) : xRuns (4) M_Court_fineOf [.ref 51, .int a1] (SH, V, L) (fun o h' => o = some (.int res.1) ∧ h' = (SH, res.2, L)) := by
  refine xRuns_of (by decide) (Nat.le_of_ble_eq_true rfl) ?_
  unfold f_Court_fineOf at h
  show X M_Court_fineOf (xRm (4) M_Court_fineOf) (xZ M_Court_fineOf (fun o h' => o = some (.int res.1) ∧ h' = (SH, res.2, L))) SH V L 0 0 0 [(0, .ref 51), (1, .int a1)] []
  refine x_aload_n 0 d_Court_fineOf_0 rfl rfl ?_
  refine x_iload_n 1 d_Court_fineOf_1 rfl rfl ?_
  obtain ⟨p1, e2, h⟩ := xbind h
  refine x_callV0v e_Court_73 sh_51 rfl (t_Court_call a1 V L _ e2) rfl rfl rfl (Nat.le_of_ble_eq_true rfl) (xfit_of (by omega) (Nat.le_of_ble_eq_true rfl)) (Nat.zero_le _) (Nat.zero_le _) d_Court_fineOf_2 ?_
  refine x_aload_n 0 d_Court_fineOf_5 rfl rfl ?_
  refine x_iconst 4 d_Court_fineOf_6 (by decide) ?_
  obtain ⟨p3, e4, h⟩ := xbind h
  refine x_callV0 e_Court_77 sh_51 rfl (t_Court_comesTo 4 p1 L _ e4) rfl rfl rfl (Nat.le_of_ble_eq_true rfl) (xfit_of (by omega) (Nat.le_of_ble_eq_true rfl)) (Nat.zero_le _) (Nat.zero_le _) d_Court_fineOf_7 ?_
  refine x_iconst 1 d_Court_fineOf_10 (by decide) ?_
  refine x_icmp_ne 18 d_Court_fineOf_11 (by decide) (fun c5 => ?_) (fun c5 => ?_)
  · replace h := xpos c5 h
    refine x_aload_n 0 d_Court_fineOf_18 rfl rfl ?_
    refine x_iconst 3 d_Court_fineOf_19 (by decide) ?_
    obtain ⟨p6, e7, h⟩ := xbind h
    refine x_callV0 e_Court_77 sh_51 rfl (t_Court_comesTo 3 p3.2 L _ e7) rfl rfl rfl (Nat.le_of_ble_eq_true rfl) (xfit_of (by omega) (Nat.le_of_ble_eq_true rfl)) (Nat.zero_le _) (Nat.zero_le _) d_Court_fineOf_20 ?_
    refine x_iconst 0 d_Court_fineOf_23 (by decide) ?_
    refine x_sipush 999 d_Court_fineOf_24 (by decide) ?_
    refine x_callSN0 e_Court_84 (t_Ww_between p6.1 0 999 p6.2 L _ rfl) rfl rfl rfl (Nat.le_of_ble_eq_true rfl) (xfit_of (by omega) (Nat.le_of_ble_eq_true rfl)) (Nat.zero_le _) (Nat.zero_le _) d_Court_fineOf_27 ?_
    obtain rfl := Option.some.inj h
    exact x_ireturn rfl d_Court_fineOf_30 (Nat.le_refl _) (Nat.le_refl _) ⟨rfl, rfl⟩
  · replace h := xneg c5 h
    refine x_iconst 0 d_Court_fineOf_14 (by decide) ?_
    refine x_goto 30 d_Court_fineOf_15 (by decide) ?_
    obtain rfl := Option.some.inj h
    exact x_ireturn rfl d_Court_fineOf_30 (Nat.le_refl _) (Nat.le_refl _) ⟨rfl, rfl⟩
-- Court_appealOf
def f_Court_appealOf (a1 : Int32) (V : xV) : Option (Int32 × xV) := (Option.bind (f_Court_call a1 V) fun p1 => (Option.bind (f_Court_comesTo 4 p1) fun p3 => some (p3.1, p3.2)))
theorem t_Court_appealOf (a1 : Int32) (V : xV) (L : xL) (res : Int32 × xV) (h : f_Court_appealOf a1 V = some res) : xRuns (4) M_Court_appealOf [.ref 51, .int a1] (SH, V, L) (fun o h' => o = some (.int res.1) ∧ h' = (SH, res.2, L)) := by
  refine xRuns_of (by decide) (Nat.le_of_ble_eq_true rfl) ?_
  unfold f_Court_appealOf at h
  show X M_Court_appealOf (xRm (4) M_Court_appealOf) (xZ M_Court_appealOf (fun o h' => o = some (.int res.1) ∧ h' = (SH, res.2, L))) SH V L 0 0 0 [(0, .ref 51), (1, .int a1)] []
  refine x_aload_n 0 d_Court_appealOf_0 rfl rfl ?_
  refine x_iload_n 1 d_Court_appealOf_1 rfl rfl ?_
  obtain ⟨p1, e2, h⟩ := xbind h
  refine x_callV0v e_Court_73 sh_51 rfl (t_Court_call a1 V L _ e2) rfl rfl rfl (Nat.le_of_ble_eq_true rfl) (xfit_of (by omega) (Nat.le_of_ble_eq_true rfl)) (Nat.zero_le _) (Nat.zero_le _) d_Court_appealOf_2 ?_
  refine x_aload_n 0 d_Court_appealOf_5 rfl rfl ?_
  refine x_iconst 4 d_Court_appealOf_6 (by decide) ?_
  obtain ⟨p3, e4, h⟩ := xbind h
  refine x_callV0 e_Court_77 sh_51 rfl (t_Court_comesTo 4 p1 L _ e4) rfl rfl rfl (Nat.le_of_ble_eq_true rfl) (xfit_of (by omega) (Nat.le_of_ble_eq_true rfl)) (Nat.zero_le _) (Nat.zero_le _) d_Court_appealOf_7 ?_
  obtain rfl := Option.some.inj h
  exact x_ireturn rfl d_Court_appealOf_10 (Nat.le_refl _) (Nat.le_refl _) ⟨rfl, rfl⟩
-- Ww_on
def f_Ww_on (a1 : Int32) (a2 : Int32) (a3 : Int32) (V : xV) : Option (Int32 × xV) := (if (f_Ww_within a1 (V 1 7)) = 0 then some ((-1), V) else (if ¬ (f_Ww_within a2 30) = 0 then (Option.bind (f_Rolls_homeOf a1 V) fun p5 => (Option.bind (f_Court_sitAsItIs a2 p5 V) fun p7 => (if a3 = 0 then (Option.bind (f_Court_actOf a1 p7) fun p10 => some (p10, p7)) else (if a3 = 1 then (Option.bind (f_Court_fineOf a1 p7) fun p13 => some (p13.1, p13.2)) else (if a3 = 2 then (Option.bind (f_Court_appealOf a1 p7) fun p16 => some (p16.1, p16.2)) else some ((-1), p7)))))) else some ((-1), V)))
theorem t_Ww_on (a1 : Int32) (a2 : Int32) (a3 : Int32) (V : xV) (L : xL) (res : Int32 × xV) (h : f_Ww_on a1 a2 a3 V = some res) : xRuns (6) M_Ww_on [.ref 0, .int a1, .int a2, .int a3] (SH, V, L) (fun o h' => o = some (.int res.1) ∧ h' = (SH, res.2, L)) := by
  refine xRuns_of (by decide) (Nat.le_of_ble_eq_true rfl) ?_
  unfold f_Ww_on at h
  show X M_Ww_on (xRm (6) M_Ww_on) (xZ M_Ww_on (fun o h' => o = some (.int res.1) ∧ h' = (SH, res.2, L))) SH V L 0 0 0 [(0, .ref 0), (1, .int a1), (2, .int a2), (3, .int a3)] []
  refine x_iload_n 1 d_Ww_on_0 rfl rfl ?_
  refine x_aload_n 0 d_Ww_on_1 rfl rfl ?_
  refine x_getP (q := 1) f_Ww_10 sh_0 rfl d_Ww_on_2 ?_
  refine x_getI f_Ww_170 sh_1 rfl d_Ww_on_5 ?_
  refine x_callS0 e_Ww_80 (t_Ww_within a1 (V 1 7) V L _ rfl) rfl rfl rfl (Nat.le_of_ble_eq_true rfl) (xfit_of (by omega) (Nat.le_of_ble_eq_true rfl)) (Nat.zero_le _) (Nat.zero_le _) d_Ww_on_8 ?_
  refine x_if_eq 23 d_Ww_on_11 (by decide) (fun c2 => ?_) (fun c2 => ?_)
  · replace h := xpos c2 h
    refine x_iconst (-1) d_Ww_on_23 (by decide) ?_
    obtain rfl := Option.some.inj h
    exact x_ireturn rfl d_Ww_on_24 (Nat.le_refl _) (Nat.le_refl _) ⟨rfl, rfl⟩
  · replace h := xneg c2 h
    refine x_iload_n 2 d_Ww_on_14 rfl rfl ?_
    refine x_bipush 30 d_Ww_on_15 (by decide) ?_
    refine x_callS0 e_Ww_80 (t_Ww_within a2 30 V L _ rfl) rfl rfl rfl (Nat.le_of_ble_eq_true rfl) (xfit_of (by omega) (Nat.le_of_ble_eq_true rfl)) (Nat.zero_le _) (Nat.zero_le _) d_Ww_on_17 ?_
    refine x_if_ne 25 d_Ww_on_20 (by decide) (fun c4 => ?_) (fun c4 => ?_)
    · replace h := xpos c4 h
      refine x_aload_n 0 d_Ww_on_25 rfl rfl ?_
      refine x_getP (q := 51) f_Ww_53 sh_0 rfl d_Ww_on_26 ?_
      refine x_iload_n 2 d_Ww_on_29 rfl rfl ?_
      refine x_aload_n 0 d_Ww_on_30 rfl rfl ?_
      refine x_getP (q := 1) f_Ww_10 sh_0 rfl d_Ww_on_31 ?_
      refine x_iload_n 1 d_Ww_on_34 rfl rfl ?_
      obtain ⟨p5, e6, h⟩ := xbind h
      refine x_callV0 e_Ww_171 sh_1 rfl (t_Rolls_homeOf a1 V L _ e6) rfl rfl rfl (Nat.le_of_ble_eq_true rfl) (xfit_of (by omega) (Nat.le_of_ble_eq_true rfl)) (Nat.zero_le _) (Nat.zero_le _) d_Ww_on_35 ?_
      obtain ⟨p7, e8, h⟩ := xbind h
      refine x_callV0v e_Ww_163 sh_51 rfl (t_Court_sitAsItIs a2 p5 V L _ e8) rfl rfl rfl (Nat.le_of_ble_eq_true rfl) (xfit_of (by omega) (Nat.le_of_ble_eq_true rfl)) (Nat.zero_le _) (Nat.zero_le _) d_Ww_on_38 ?_
      refine x_iload_n 3 d_Ww_on_41 rfl rfl ?_
      by_cases c9 : a3 = 0
      · replace h := xpos c9 h
        refine x_tableIn 26 68 d_Ww_on_42 (by rw [c9]; decide) (by rw [c9]; decide) (by rw [c9]; rfl) (by decide) ?_
        refine x_aload_n 0 d_Ww_on_68 rfl rfl ?_
        refine x_getP (q := 51) f_Ww_53 sh_0 rfl d_Ww_on_69 ?_
        refine x_iload_n 1 d_Ww_on_72 rfl rfl ?_
        obtain ⟨p10, e11, h⟩ := xbind h
        refine x_callV0 e_Ww_175 sh_51 rfl (t_Court_actOf a1 p7 L _ e11) rfl rfl rfl (Nat.le_of_ble_eq_true rfl) (xfit_of (by omega) (Nat.le_of_ble_eq_true rfl)) (Nat.zero_le _) (Nat.zero_le _) d_Ww_on_73 ?_
        obtain rfl := Option.some.inj h
        exact x_ireturn rfl d_Ww_on_76 (Nat.le_refl _) (Nat.le_refl _) ⟨rfl, rfl⟩
      replace h := xneg c9 h
      by_cases c12 : a3 = 1
      · replace h := xpos c12 h
        refine x_tableIn 35 77 d_Ww_on_42 (by rw [c12]; decide) (by rw [c12]; decide) (by rw [c12]; rfl) (by decide) ?_
        refine x_aload_n 0 d_Ww_on_77 rfl rfl ?_
        refine x_getP (q := 51) f_Ww_53 sh_0 rfl d_Ww_on_78 ?_
        refine x_iload_n 1 d_Ww_on_81 rfl rfl ?_
        obtain ⟨p13, e14, h⟩ := xbind h
        refine x_callV0 e_Ww_178 sh_51 rfl (t_Court_fineOf a1 p7 L _ e14) rfl rfl rfl (Nat.le_of_ble_eq_true rfl) (xfit_of (by omega) (Nat.le_of_ble_eq_true rfl)) (Nat.zero_le _) (Nat.zero_le _) d_Ww_on_82 ?_
        obtain rfl := Option.some.inj h
        exact x_ireturn rfl d_Ww_on_85 (Nat.le_refl _) (Nat.le_refl _) ⟨rfl, rfl⟩
      replace h := xneg c12 h
      by_cases c15 : a3 = 2
      · replace h := xpos c15 h
        refine x_tableIn 44 86 d_Ww_on_42 (by rw [c15]; decide) (by rw [c15]; decide) (by rw [c15]; rfl) (by decide) ?_
        refine x_aload_n 0 d_Ww_on_86 rfl rfl ?_
        refine x_getP (q := 51) f_Ww_53 sh_0 rfl d_Ww_on_87 ?_
        refine x_iload_n 1 d_Ww_on_90 rfl rfl ?_
        obtain ⟨p16, e17, h⟩ := xbind h
        refine x_callV0 e_Ww_181 sh_51 rfl (t_Court_appealOf a1 p7 L _ e17) rfl rfl rfl (Nat.le_of_ble_eq_true rfl) (xfit_of (by omega) (Nat.le_of_ble_eq_true rfl)) (Nat.zero_le _) (Nat.zero_le _) d_Ww_on_91 ?_
        obtain rfl := Option.some.inj h
        exact x_ireturn rfl d_Ww_on_94 (Nat.le_refl _) (Nat.le_refl _) ⟨rfl, rfl⟩
      replace h := xneg c15 h
      refine x_tableOut 95 d_Ww_on_42 (by have n0 := lv_neT c9 (a := 0) rfl; have n1 := lv_neT c12 (a := 1) rfl; have n2 := lv_neT c15 (a := 2) rfl; omega) (by decide) ?_
      refine x_iconst (-1) d_Ww_on_95 (by decide) ?_
      obtain rfl := Option.some.inj h
      exact x_ireturn rfl d_Ww_on_96 (Nat.le_refl _) (Nat.le_refl _) ⟨rfl, rfl⟩
    · replace h := xneg c4 h
      refine x_iconst (-1) d_Ww_on_23 (by decide) ?_
      obtain rfl := Option.some.inj h
      exact x_ireturn rfl d_Ww_on_24 (Nat.le_refl _) (Nat.le_refl _) ⟨rfl, rfl⟩
-- Court_gainOf
def b_Court_gainOf_27 (v3 : Int32) (s0 : Int32) (s1 : Int32) (V : xV) : Option (Int32 × xV) := (Option.bind (f_Bench_tell s1 s0 V) fun p4 => (Option.bind (f_Court_comesTo 2 p4) fun p6 => some ((f_Ww_between p6.1 (-9999) 9999) - v3, p6.2)))
theorem tb_Court_gainOf_27 {L : xL} (res : Int32 × xV)  (v3 : Int32) (s0 : Int32) (s1 : Int32) (V : xV) (h : b_Court_gainOf_27 v3 s0 s1 V = some res) : X M_Court_gainOf (xRm (5) M_Court_gainOf) (xZ M_Court_gainOf (fun o h' => o = some (.int res.1) ∧ h' = (SH, res.2, L))) SH V L 0 0 27 [(0, .ref 51), (3, .int v3)] [.int s0, .int s1, .ref 52] := by
  unfold b_Court_gainOf_27 at h
  obtain ⟨p4, e5, h⟩ := xbind h
  refine x_callV0v e_Court_60 sh_52 rfl (t_Bench_tell s1 s0 V L _ e5) rfl rfl rfl (Nat.le_of_ble_eq_true rfl) (xfit_of (by omega) (Nat.le_of_ble_eq_true rfl)) (Nat.zero_le _) (Nat.zero_le _) d_Court_gainOf_27 ?_
  refine x_aload_n 0 d_Court_gainOf_30 rfl rfl ?_
  refine x_iconst 2 d_Court_gainOf_31 (by decide) ?_
  obtain ⟨p6, e7, h⟩ := xbind h
  refine x_callV0 e_Court_77 sh_51 rfl (t_Court_comesTo 2 p4 L _ e7) rfl rfl rfl (Nat.le_of_ble_eq_true rfl) (xfit_of (by omega) (Nat.le_of_ble_eq_true rfl)) (Nat.zero_le _) (Nat.zero_le _) d_Court_gainOf_32 ?_
  refine x_sipush (-9999) d_Court_gainOf_35 (by decide) ?_
  refine x_sipush 9999 d_Court_gainOf_38 (by decide) ?_
  refine x_callSN0 e_Court_84 (t_Ww_between p6.1 (-9999) 9999 p6.2 L _ rfl) rfl rfl rfl (Nat.le_of_ble_eq_true rfl) (xfit_of (by omega) (Nat.le_of_ble_eq_true rfl)) (Nat.zero_le _) (Nat.zero_le _) d_Court_gainOf_41 ?_
  refine x_iload_n 1 d_Court_gainOf_44 rfl rfl ?_
  refine x_isub d_Court_gainOf_45 ?_
  obtain rfl := Option.some.inj h
  exact x_ireturn rfl d_Court_gainOf_46 (Nat.le_refl _) (Nat.le_refl _) ⟨rfl, rfl⟩
def f_Court_gainOf (a1 : Int32) (a2 : Int32) (V : xV) : Option (Int32 × xV) := (Option.bind (f_Court_fineOf a1 V) fun p1 => (if a2 = 0 then b_Court_gainOf_27 p1.1 (p1.2 51 8) 18 p1.2 else b_Court_gainOf_27 p1.1 (p1.2 51 9) 18 p1.2))
theorem t_Court_gainOf (a1 : Int32) (a2 : Int32) (V : xV) (L : xL) (res : Int32 × xV) (h : f_Court_gainOf a1 a2 V = some res) : xRuns (5) M_Court_gainOf [.ref 51, .int a1, .int a2] (SH, V, L) (fun o h' => o = some (.int res.1) ∧ h' = (SH, res.2, L)) := by
  refine xRuns_of (by decide) (Nat.le_of_ble_eq_true rfl) ?_
  unfold f_Court_gainOf at h
  show X M_Court_gainOf (xRm (5) M_Court_gainOf) (xZ M_Court_gainOf (fun o h' => o = some (.int res.1) ∧ h' = (SH, res.2, L))) SH V L 0 0 0 [(0, .ref 51), (1, .int a1), (2, .int a2)] []
  refine x_aload_n 0 d_Court_gainOf_0 rfl rfl ?_
  refine x_iload_n 1 d_Court_gainOf_1 rfl rfl ?_
  obtain ⟨p1, e2, h⟩ := xbind h
  refine x_callV0 e_Court_88 sh_51 rfl (t_Court_fineOf a1 V L _ e2) rfl rfl rfl (Nat.le_of_ble_eq_true rfl) (xfit_of (by omega) (Nat.le_of_ble_eq_true rfl)) (Nat.zero_le _) (Nat.zero_le _) d_Court_gainOf_2 ?_
  refine x_istore_n [(3, .int p1.1), (0, .ref 51), (1, .int a1), (2, .int a2)] d_Court_gainOf_5 rfl (Nat.le_of_ble_eq_true rfl) rfl ?_
  refine x_aload_n 1 d_Court_gainOf_6 rfl rfl ?_
  refine x_getP (q := 52) f_Court_18 sh_51 rfl d_Court_gainOf_7 ?_
  refine x_bipush 18 d_Court_gainOf_10 (by decide) ?_
  refine x_iload_n 3 d_Court_gainOf_12 rfl rfl ?_
  refine x_if_eq 23 d_Court_gainOf_13 (by decide) (fun c3 => ?_) (fun c3 => ?_)
  · replace h := xpos c3 h
    refine x_aload_n 1 d_Court_gainOf_23 rfl rfl ?_
    refine x_getI f_Court_57 sh_51 rfl d_Court_gainOf_24 ?_
    refine x_pick [1, 0] rfl ?_
    exact tb_Court_gainOf_27 (L := L) res p1.1 (p1.2 51 8) 18 p1.2 h
  · replace h := xneg c3 h
    refine x_aload_n 1 d_Court_gainOf_16 rfl rfl ?_
    refine x_getI f_Court_54 sh_51 rfl d_Court_gainOf_17 ?_
    refine x_goto 27 d_Court_gainOf_20 (by decide) ?_
    refine x_pick [1, 0] rfl ?_
    exact tb_Court_gainOf_27 (L := L) res p1.1 (p1.2 51 9) 18 p1.2 h
-- Ww_gain
def f_Ww_gain (a1 : Int32) (a2 : Int32) (a3 : Int32) (V : xV) : Option (Int32 × xV) := (if (f_Ww_within a1 (V 1 7)) = 0 then some ((-100000), V) else (if ¬ (f_Ww_within a2 30) = 0 then (Option.bind (f_Rolls_homeOf a1 V) fun p5 => (Option.bind (f_Court_sitAsItIs a2 p5 V) fun p7 => (Option.bind (f_Court_gainOf a1 a3 p7) fun p9 => some (p9.1, p9.2)))) else some ((-100000), V)))
theorem t_Ww_gain (a1 : Int32) (a2 : Int32) (a3 : Int32) (V : xV) (L : xL) (res : Int32 × xV) (h : f_Ww_gain a1 a2 a3 V = some res) : xRuns (6) M_Ww_gain [.ref 0, .int a1, .int a2, .int a3] (SH, V, L) (fun o h' => o = some (.int res.1) ∧ h' = (SH, res.2, L)) := by
  refine xRuns_of (by decide) (Nat.le_of_ble_eq_true rfl) ?_
  unfold f_Ww_gain at h
  show X M_Ww_gain (xRm (6) M_Ww_gain) (xZ M_Ww_gain (fun o h' => o = some (.int res.1) ∧ h' = (SH, res.2, L))) SH V L 0 0 0 [(0, .ref 0), (1, .int a1), (2, .int a2), (3, .int a3)] []
  refine x_iload_n 1 d_Ww_gain_0 rfl rfl ?_
  refine x_aload_n 0 d_Ww_gain_1 rfl rfl ?_
  refine x_getP (q := 1) f_Ww_10 sh_0 rfl d_Ww_gain_2 ?_
  refine x_getI f_Ww_170 sh_1 rfl d_Ww_gain_5 ?_
  refine x_callS0 e_Ww_80 (t_Ww_within a1 (V 1 7) V L _ rfl) rfl rfl rfl (Nat.le_of_ble_eq_true rfl) (xfit_of (by omega) (Nat.le_of_ble_eq_true rfl)) (Nat.zero_le _) (Nat.zero_le _) d_Ww_gain_8 ?_
  refine x_if_eq 23 d_Ww_gain_11 (by decide) (fun c2 => ?_) (fun c2 => ?_)
  · replace h := xpos c2 h
    refine x_ldc c_Ww_184 d_Ww_gain_23 ?_
    obtain rfl := Option.some.inj h
    exact x_ireturn rfl d_Ww_gain_25 (Nat.le_refl _) (Nat.le_refl _) ⟨rfl, rfl⟩
  · replace h := xneg c2 h
    refine x_iload_n 2 d_Ww_gain_14 rfl rfl ?_
    refine x_bipush 30 d_Ww_gain_15 (by decide) ?_
    refine x_callS0 e_Ww_80 (t_Ww_within a2 30 V L _ rfl) rfl rfl rfl (Nat.le_of_ble_eq_true rfl) (xfit_of (by omega) (Nat.le_of_ble_eq_true rfl)) (Nat.zero_le _) (Nat.zero_le _) d_Ww_gain_17 ?_
    refine x_if_ne 26 d_Ww_gain_20 (by decide) (fun c4 => ?_) (fun c4 => ?_)
    · replace h := xpos c4 h
      refine x_aload_n 0 d_Ww_gain_26 rfl rfl ?_
      refine x_getP (q := 51) f_Ww_53 sh_0 rfl d_Ww_gain_27 ?_
      refine x_iload_n 2 d_Ww_gain_30 rfl rfl ?_
      refine x_aload_n 0 d_Ww_gain_31 rfl rfl ?_
      refine x_getP (q := 1) f_Ww_10 sh_0 rfl d_Ww_gain_32 ?_
      refine x_iload_n 1 d_Ww_gain_35 rfl rfl ?_
      obtain ⟨p5, e6, h⟩ := xbind h
      refine x_callV0 e_Ww_171 sh_1 rfl (t_Rolls_homeOf a1 V L _ e6) rfl rfl rfl (Nat.le_of_ble_eq_true rfl) (xfit_of (by omega) (Nat.le_of_ble_eq_true rfl)) (Nat.zero_le _) (Nat.zero_le _) d_Ww_gain_36 ?_
      obtain ⟨p7, e8, h⟩ := xbind h
      refine x_callV0v e_Ww_163 sh_51 rfl (t_Court_sitAsItIs a2 p5 V L _ e8) rfl rfl rfl (Nat.le_of_ble_eq_true rfl) (xfit_of (by omega) (Nat.le_of_ble_eq_true rfl)) (Nat.zero_le _) (Nat.zero_le _) d_Ww_gain_39 ?_
      refine x_aload_n 0 d_Ww_gain_42 rfl rfl ?_
      refine x_getP (q := 51) f_Ww_53 sh_0 rfl d_Ww_gain_43 ?_
      refine x_iload_n 1 d_Ww_gain_46 rfl rfl ?_
      refine x_iload_n 3 d_Ww_gain_47 rfl rfl ?_
      obtain ⟨p9, e10, h⟩ := xbind h
      refine x_callV0 e_Ww_185 sh_51 rfl (t_Court_gainOf a1 a3 p7 L _ e10) rfl rfl rfl (Nat.le_of_ble_eq_true rfl) (xfit_of (by omega) (Nat.le_of_ble_eq_true rfl)) (Nat.zero_le _) (Nat.zero_le _) d_Ww_gain_48 ?_
      obtain rfl := Option.some.inj h
      exact x_ireturn rfl d_Ww_gain_51 (Nat.le_refl _) (Nat.le_refl _) ⟨rfl, rfl⟩
    · replace h := xneg c4 h
      refine x_ldc c_Ww_184 d_Ww_gain_23 ?_
      obtain rfl := Option.some.inj h
      exact x_ireturn rfl d_Ww_gain_25 (Nat.le_refl _) (Nat.le_refl _) ⟨rfl, rfl⟩
-- Court_addGains
def b_Court_addGains_52 (k5 : Int32 → Int32 → Int32 → Int32 → xV → Option (Int32 × xV)) (v1 : Int32) (v2 : Int32) (v3 : Int32) (v4 : Int32) (V : xV) : Option (Int32 × xV) := (Option.bind (f_Court_gainOf v4 v2 V) fun p7 => (if xI v4 12 = true then (if xI v4 12 = true then k5 v1 v2 (v3 + p7.1) (v4 + 1) (x2 p7.2 56 v4.toNatClampNeg ((p7.2 56 v4.toNatClampNeg) + p7.1)) else none) else none))
theorem tb_Court_addGains_52 {L : xL} (k5 : Int32 → Int32 → Int32 → Int32 → xV → Option (Int32 × xV)) (res : Int32 × xV) (hk5 : ∀ (v1 : Int32) (v2 : Int32) (v3 : Int32) (v4 : Int32) (V : xV), k5 v1 v2 v3 v4 V = some res → X M_Court_addGains (xRm (6) M_Court_addGains) (xZ M_Court_addGains (fun o h' => o = some (.int res.1) ∧ h' = (SH, res.2, L))) SH V L 0 0 5 [(0, .ref 51), (1, .int v1), (2, .int v2), (3, .int v3), (4, .int v4)] []) (v1 : Int32) (v2 : Int32) (v3 : Int32) (v4 : Int32) (V : xV) (h : b_Court_addGains_52 k5 v1 v2 v3 v4 V = some res) : X M_Court_addGains (xRm (6) M_Court_addGains) (xZ M_Court_addGains (fun o h' => o = some (.int res.1) ∧ h' = (SH, res.2, L))) SH V L 0 0 52 [(0, .ref 51), (1, .int v1), (2, .int v2), (3, .int v3), (4, .int v4)] [] := by
  unfold b_Court_addGains_52 at h
  refine x_aload_n 0 d_Court_addGains_52 rfl rfl ?_
  refine x_iload 4 d_Court_addGains_53 rfl ?_
  refine x_iload_n 2 d_Court_addGains_55 rfl rfl ?_
  obtain ⟨p7, e8, h⟩ := xbind h
  refine x_callV0 e_Court_94 sh_51 rfl (t_Court_gainOf v4 v2 V L _ e8) rfl rfl rfl (Nat.le_of_ble_eq_true rfl) (xfit_of (by omega) (Nat.le_of_ble_eq_true rfl)) (Nat.zero_le _) (Nat.zero_le _) d_Court_addGains_56 ?_
  refine x_istore [(5, .int p7.1), (0, .ref 51), (1, .int v1), (2, .int v2), (3, .int v3), (4, .int v4)] d_Court_addGains_59 (Nat.le_of_ble_eq_true rfl) rfl ?_
  refine x_aload_n 1 d_Court_addGains_61 rfl rfl ?_
  refine x_getP (q := 56) f_Court_26 sh_51 rfl d_Court_addGains_62 ?_
  refine x_iload 5 d_Court_addGains_65 rfl ?_
  refine x_dup2 d_Court_addGains_67 rfl rfl ?_
  obtain ⟨c9, h⟩ := xguard h
  refine x_iaload sh_56 c9 d_Court_addGains_68 ?_
  refine x_iload 0 d_Court_addGains_69 rfl ?_
  refine x_iadd d_Court_addGains_71 ?_
  obtain ⟨c10, h⟩ := xguard h
  refine x_iastore sh_56 c10 d_Court_addGains_72 ?_
  refine x_iload_n 4 d_Court_addGains_73 rfl rfl ?_
  refine x_iload 0 d_Court_addGains_74 rfl ?_
  refine x_iadd d_Court_addGains_76 ?_
  refine x_istore_n [(3, .int (v3 + p7.1)), (5, .int p7.1), (0, .ref 51), (1, .int v1), (2, .int v2), (4, .int v4)] d_Court_addGains_77 rfl (Nat.le_of_ble_eq_true rfl) rfl ?_
  refine x_iinc 5 1 [(4, .int (v4 + 1)), (3, .int (v3 + p7.1)), (5, .int p7.1), (0, .ref 51), (1, .int v1), (2, .int v2)] d_Court_addGains_78 rfl (by decide) (Nat.le_of_ble_eq_true rfl) rfl ?_
  refine x_goto 5 d_Court_addGains_81 (by decide) ?_
  refine x_pick [3, 4, 5, 1, 0] rfl ?_
  exact hk5 v1 v2 (v3 + p7.1) (v4 + 1) (x2 p7.2 56 v4.toNatClampNeg ((p7.2 56 v4.toNatClampNeg) + p7.1)) h
def b_Court_addGains_5 (k5 : Int32 → Int32 → Int32 → Int32 → xV → Option (Int32 × xV)) (v1 : Int32) (v2 : Int32) (v3 : Int32) (v4 : Int32) (V : xV) : Option (Int32 × xV) := (if (V 1 7) ≤ v4 then some (v3, V) else (if 12 ≤ v4 then some (v3, V) else (if xI v4 12 = true then (if ¬ (V 2 v4.toNatClampNeg) = (V 51 7) then k5 v1 v2 v3 (v4 + 1) V else (if v1 = (-1) then b_Court_addGains_52 k5 v1 v2 v3 v4 V else (if ¬ v1 = v4 then k5 v1 v2 v3 (v4 + 1) V else b_Court_addGains_52 k5 v1 v2 v3 v4 V))) else none)))
theorem tb_Court_addGains_5 {L : xL} (k5 : Int32 → Int32 → Int32 → Int32 → xV → Option (Int32 × xV)) (res : Int32 × xV) (hk5 : ∀ (v1 : Int32) (v2 : Int32) (v3 : Int32) (v4 : Int32) (V : xV), k5 v1 v2 v3 v4 V = some res → X M_Court_addGains (xRm (6) M_Court_addGains) (xZ M_Court_addGains (fun o h' => o = some (.int res.1) ∧ h' = (SH, res.2, L))) SH V L 0 0 5 [(0, .ref 51), (1, .int v1), (2, .int v2), (3, .int v3), (4, .int v4)] []) (v1 : Int32) (v2 : Int32) (v3 : Int32) (v4 : Int32) (V : xV) (h : b_Court_addGains_5 k5 v1 v2 v3 v4 V = some res) : X M_Court_addGains (xRm (6) M_Court_addGains) (xZ M_Court_addGains (fun o h' => o = some (.int res.1) ∧ h' = (SH, res.2, L))) SH V L 0 0 5 [(0, .ref 51), (1, .int v1), (2, .int v2), (3, .int v3), (4, .int v4)] [] := by
  unfold b_Court_addGains_5 at h
  refine x_iload 4 d_Court_addGains_5 rfl ?_
  refine x_aload_n 0 d_Court_addGains_7 rfl rfl ?_
  refine x_getP (q := 1) f_Court_29 sh_51 rfl d_Court_addGains_8 ?_
  refine x_getI f_Court_67 sh_1 rfl d_Court_addGains_11 ?_
  refine x_icmp_ge 84 d_Court_addGains_14 (by decide) (fun c1 => ?_) (fun c1 => ?_)
  · replace h := xpos c1 h
    refine x_iload_n 3 d_Court_addGains_84 rfl rfl ?_
    obtain rfl := Option.some.inj h
    exact x_ireturn rfl d_Court_addGains_85 (Nat.le_refl _) (Nat.le_refl _) ⟨rfl, rfl⟩
  · replace h := xneg c1 h
    refine x_iload 4 d_Court_addGains_17 rfl ?_
    refine x_bipush 12 d_Court_addGains_19 (by decide) ?_
    refine x_icmp_ge 84 d_Court_addGains_21 (by decide) (fun c2 => ?_) (fun c2 => ?_)
    · replace h := xpos c2 h
      refine x_iload_n 3 d_Court_addGains_84 rfl rfl ?_
      obtain rfl := Option.some.inj h
      exact x_ireturn rfl d_Court_addGains_85 (Nat.le_refl _) (Nat.le_refl _) ⟨rfl, rfl⟩
    · replace h := xneg c2 h
      refine x_aload_n 0 d_Court_addGains_24 rfl rfl ?_
      refine x_getP (q := 1) f_Court_29 sh_51 rfl d_Court_addGains_25 ?_
      refine x_getP (q := 2) f_Court_70 sh_1 rfl d_Court_addGains_28 ?_
      refine x_iload 4 d_Court_addGains_31 rfl ?_
      obtain ⟨c3, h⟩ := xguard h
      refine x_iaload sh_2 c3 d_Court_addGains_33 ?_
      refine x_aload_n 0 d_Court_addGains_34 rfl rfl ?_
      refine x_getI f_Court_51 sh_51 rfl d_Court_addGains_35 ?_
      refine x_icmp_ne 78 d_Court_addGains_38 (by decide) (fun c4 => ?_) (fun c4 => ?_)
      · replace h := xpos c4 h
        refine x_iinc 4 1 [(4, .int (v4 + 1)), (0, .ref 51), (1, .int v1), (2, .int v2), (3, .int v3)] d_Court_addGains_78 rfl (by decide) (Nat.le_of_ble_eq_true rfl) rfl ?_
        refine x_goto 5 d_Court_addGains_81 (by decide) ?_
        refine x_pick [1, 2, 3, 4, 0] rfl ?_
        exact hk5 v1 v2 v3 (v4 + 1) V h
      · replace h := xneg c4 h
        refine x_iload_n 1 d_Court_addGains_41 rfl rfl ?_
        refine x_iconst (-1) d_Court_addGains_42 (by decide) ?_
        refine x_icmp_eq 52 d_Court_addGains_43 (by decide) (fun c5 => ?_) (fun c5 => ?_)
        · replace h := xpos c5 h
          exact tb_Court_addGains_52 (L := L) k5 res hk5 v1 v2 v3 v4 V h
        · replace h := xneg c5 h
          refine x_iload_n 1 d_Court_addGains_46 rfl rfl ?_
          refine x_iload 4 d_Court_addGains_47 rfl ?_
          refine x_icmp_ne 78 d_Court_addGains_49 (by decide) (fun c6 => ?_) (fun c6 => ?_)
          · replace h := xpos c6 h
            refine x_iinc 4 1 [(4, .int (v4 + 1)), (0, .ref 51), (1, .int v1), (2, .int v2), (3, .int v3)] d_Court_addGains_78 rfl (by decide) (Nat.le_of_ble_eq_true rfl) rfl ?_
            refine x_goto 5 d_Court_addGains_81 (by decide) ?_
            refine x_pick [1, 2, 3, 4, 0] rfl ?_
            exact hk5 v1 v2 v3 (v4 + 1) V h
          · replace h := xneg c6 h
            exact tb_Court_addGains_52 (L := L) k5 res hk5 v1 v2 v3 v4 V h
def g_Court_addGains_5  : Nat → Int32 → Int32 → Int32 → Int32 → xV → Option (Int32 × xV)
  | 0, _, _, _, _, _ => none
  | n + 1, v1, v2, v3, v4, V => b_Court_addGains_5 (g_Court_addGains_5  n) v1 v2 v3 v4 V
theorem tg_Court_addGains_5 {L : xL} (res : Int32 × xV)  : ∀ (n : Nat) (v1 : Int32) (v2 : Int32) (v3 : Int32) (v4 : Int32) (V : xV), g_Court_addGains_5  n v1 v2 v3 v4 V = some res → X M_Court_addGains (xRm (6) M_Court_addGains) (xZ M_Court_addGains (fun o h' => o = some (.int res.1) ∧ h' = (SH, res.2, L))) SH V L 0 0 5 [(0, .ref 51), (1, .int v1), (2, .int v2), (3, .int v3), (4, .int v4)] []
  | 0, _, _, _, _, _, h => by cases h
  | n + 1, v1, v2, v3, v4, V, h => tb_Court_addGains_5 (L := L) (g_Court_addGains_5  n) res (tg_Court_addGains_5 (L := L) res n) v1 v2 v3 v4 V h
def f_Court_addGains (a1 : Int32) (a2 : Int32) (V : xV) : Option (Int32 × xV) := g_Court_addGains_5 2000 a1 a2 0 0 V
theorem t_Court_addGains (a1 : Int32) (a2 : Int32) (V : xV) (L : xL) (res : Int32 × xV) (h : f_Court_addGains a1 a2 V = some res) : xRuns (6) M_Court_addGains [.ref 51, .int a1, .int a2] (SH, V, L) (fun o h' => o = some (.int res.1) ∧ h' = (SH, res.2, L)) := by
  refine xRuns_of (by decide) (Nat.le_of_ble_eq_true rfl) ?_
  unfold f_Court_addGains at h
  show X M_Court_addGains (xRm (6) M_Court_addGains) (xZ M_Court_addGains (fun o h' => o = some (.int res.1) ∧ h' = (SH, res.2, L))) SH V L 0 0 0 [(0, .ref 51), (1, .int a1), (2, .int a2)] []
  refine x_iconst 0 d_Court_addGains_0 (by decide) ?_
  refine x_istore_n [(3, .int 0), (0, .ref 51), (1, .int a1), (2, .int a2)] d_Court_addGains_1 rfl (Nat.le_of_ble_eq_true rfl) rfl ?_
  refine x_iconst 0 d_Court_addGains_2 (by decide) ?_
  refine x_istore [(4, .int 0), (3, .int 0), (0, .ref 51), (1, .int a1), (2, .int a2)] d_Court_addGains_3 (Nat.le_of_ble_eq_true rfl) rfl ?_
  refine x_pick [2, 3, 4, 1, 0] rfl ?_
  exact tg_Court_addGains_5 (L := L) res _ a1 a2 0 0 V h
-- Court_tally
def b_Court_tally_41 (k14 : Int32 → Int32 → Int32 → Int32 → Int32 → Int32 → xV → Option (Int32 × xV)) (k41 : Int32 → Int32 → Int32 → Int32 → Int32 → Int32 → Int32 → xV → Option (Int32 × xV)) (v1 : Int32) (v2 : Int32) (v3 : Int32) (v4 : Int32) (v5 : Int32) (v6 : Int32) (v7 : Int32) (V : xV) : Option (Int32 × xV) := (if v3 < v7 then k14 v1 v2 v3 v4 v5 (v6 + 1) V else (Option.bind (f_Court_sitAsItIs v7 v6 V) fun p7 => (Option.bind (f_Court_addGains v1 v4 p7) fun p9 => k41 v1 v2 v3 v4 (v5 + p9.1) v6 (v7 + 1) p9.2)))
theorem tb_Court_tally_41 {L : xL} (k14 : Int32 → Int32 → Int32 → Int32 → Int32 → Int32 → xV → Option (Int32 × xV)) (k41 : Int32 → Int32 → Int32 → Int32 → Int32 → Int32 → Int32 → xV → Option (Int32 × xV)) (res : Int32 × xV) (hk14 : ∀ (v1 : Int32) (v2 : Int32) (v3 : Int32) (v4 : Int32) (v5 : Int32) (v6 : Int32) (V : xV), k14 v1 v2 v3 v4 v5 v6 V = some res → X M_Court_tally (xRm (7) M_Court_tally) (xZ M_Court_tally (fun o h' => o = some (.int res.1) ∧ h' = (SH, res.2, L))) SH V L 0 0 14 [(0, .ref 51), (1, .int v1), (2, .int v2), (3, .int v3), (4, .int v4), (5, .int v5), (6, .int v6)] []) (hk41 : ∀ (v1 : Int32) (v2 : Int32) (v3 : Int32) (v4 : Int32) (v5 : Int32) (v6 : Int32) (v7 : Int32) (V : xV), k41 v1 v2 v3 v4 v5 v6 v7 V = some res → X M_Court_tally (xRm (7) M_Court_tally) (xZ M_Court_tally (fun o h' => o = some (.int res.1) ∧ h' = (SH, res.2, L))) SH V L 0 0 41 [(0, .ref 51), (1, .int v1), (2, .int v2), (3, .int v3), (4, .int v4), (5, .int v5), (6, .int v6), (7, .int v7)] []) (v1 : Int32) (v2 : Int32) (v3 : Int32) (v4 : Int32) (v5 : Int32) (v6 : Int32) (v7 : Int32) (V : xV) (h : b_Court_tally_41 k14 k41 v1 v2 v3 v4 v5 v6 v7 V = some res) : X M_Court_tally (xRm (7) M_Court_tally) (xZ M_Court_tally (fun o h' => o = some (.int res.1) ∧ h' = (SH, res.2, L))) SH V L 0 0 41 [(0, .ref 51), (1, .int v1), (2, .int v2), (3, .int v3), (4, .int v4), (5, .int v5), (6, .int v6), (7, .int v7)] [] := by
  unfold b_Court_tally_41 at h
  refine x_iload 7 d_Court_tally_41 rfl ?_
  refine x_iload_n 3 d_Court_tally_43 rfl rfl ?_
  refine x_icmp_gt 73 d_Court_tally_44 (by decide) (fun c6 => ?_) (fun c6 => ?_)
  · replace h := xpos c6 h
    refine x_iinc 6 1 [(6, .int (v6 + 1)), (0, .ref 51), (1, .int v1), (2, .int v2), (3, .int v3), (4, .int v4), (5, .int v5), (7, .int v7)] d_Court_tally_73 rfl (by decide) (Nat.le_of_ble_eq_true rfl) rfl ?_
    refine x_goto 14 d_Court_tally_76 (by decide) ?_
    refine x_pick [1, 2, 3, 4, 5, 6, 0] rfl ?_
    exact hk14 v1 v2 v3 v4 v5 (v6 + 1) V h
  · replace h := xneg c6 h
    refine x_aload_n 0 d_Court_tally_47 rfl rfl ?_
    refine x_iload 7 d_Court_tally_48 rfl ?_
    refine x_iload 6 d_Court_tally_50 rfl ?_
    obtain ⟨p7, e8, h⟩ := xbind h
    refine x_callV0v e_Court_98 sh_51 rfl (t_Court_sitAsItIs v7 v6 V L _ e8) rfl rfl rfl (Nat.le_of_ble_eq_true rfl) (xfit_of (by omega) (Nat.le_of_ble_eq_true rfl)) (Nat.zero_le _) (Nat.zero_le _) d_Court_tally_52 ?_
    refine x_iload 5 d_Court_tally_55 rfl ?_
    refine x_aload_n 0 d_Court_tally_57 rfl rfl ?_
    refine x_iload_n 1 d_Court_tally_58 rfl rfl ?_
    refine x_iload 4 d_Court_tally_59 rfl ?_
    obtain ⟨p9, e10, h⟩ := xbind h
    refine x_callV0 e_Court_107 sh_51 rfl (t_Court_addGains v1 v4 p7 L _ e10) rfl rfl rfl (Nat.le_of_ble_eq_true rfl) (xfit_of (by omega) (Nat.le_of_ble_eq_true rfl)) (Nat.zero_le _) (Nat.zero_le _) d_Court_tally_61 ?_
    refine x_iadd d_Court_tally_64 ?_
    refine x_istore [(5, .int (v5 + p9.1)), (0, .ref 51), (1, .int v1), (2, .int v2), (3, .int v3), (4, .int v4), (6, .int v6), (7, .int v7)] d_Court_tally_65 (Nat.le_of_ble_eq_true rfl) rfl ?_
    refine x_iinc 7 1 [(7, .int (v7 + 1)), (5, .int (v5 + p9.1)), (0, .ref 51), (1, .int v1), (2, .int v2), (3, .int v3), (4, .int v4), (6, .int v6)] d_Court_tally_67 rfl (by decide) (Nat.le_of_ble_eq_true rfl) rfl ?_
    refine x_goto 41 d_Court_tally_70 (by decide) ?_
    refine x_pick [2, 3, 4, 5, 6, 1, 7, 0] rfl ?_
    exact hk41 v1 v2 v3 v4 (v5 + p9.1) v6 (v7 + 1) p9.2 h
def g_Court_tally_41 (k14 : Int32 → Int32 → Int32 → Int32 → Int32 → Int32 → xV → Option (Int32 × xV)) : Nat → Int32 → Int32 → Int32 → Int32 → Int32 → Int32 → Int32 → xV → Option (Int32 × xV)
  | 0, _, _, _, _, _, _, _, _ => none
  | n + 1, v1, v2, v3, v4, v5, v6, v7, V => b_Court_tally_41 k14 (g_Court_tally_41 k14 n) v1 v2 v3 v4 v5 v6 v7 V
theorem tg_Court_tally_41 {L : xL} (k14 : Int32 → Int32 → Int32 → Int32 → Int32 → Int32 → xV → Option (Int32 × xV)) (res : Int32 × xV) (hk14 : ∀ (v1 : Int32) (v2 : Int32) (v3 : Int32) (v4 : Int32) (v5 : Int32) (v6 : Int32) (V : xV), k14 v1 v2 v3 v4 v5 v6 V = some res → X M_Court_tally (xRm (7) M_Court_tally) (xZ M_Court_tally (fun o h' => o = some (.int res.1) ∧ h' = (SH, res.2, L))) SH V L 0 0 14 [(0, .ref 51), (1, .int v1), (2, .int v2), (3, .int v3), (4, .int v4), (5, .int v5), (6, .int v6)] []) : ∀ (n : Nat) (v1 : Int32) (v2 : Int32) (v3 : Int32) (v4 : Int32) (v5 : Int32) (v6 : Int32) (v7 : Int32) (V : xV), g_Court_tally_41 k14 n v1 v2 v3 v4 v5 v6 v7 V = some res → X M_Court_tally (xRm (7) M_Court_tally) (xZ M_Court_tally (fun o h' => o = some (.int res.1) ∧ h' = (SH, res.2, L))) SH V L 0 0 41 [(0, .ref 51), (1, .int v1), (2, .int v2), (3, .int v3), (4, .int v4), (5, .int v5), (6, .int v6), (7, .int v7)] []
  | 0, _, _, _, _, _, _, _, _, h => by cases h
  | n + 1, v1, v2, v3, v4, v5, v6, v7, V, h => tb_Court_tally_41 (L := L) k14 (g_Court_tally_41 k14 n) res hk14 (tg_Court_tally_41 (L := L) k14 res hk14 n) v1 v2 v3 v4 v5 v6 v7 V h
def b_Court_tally_14 (k14 : Int32 → Int32 → Int32 → Int32 → Int32 → Int32 → xV → Option (Int32 × xV)) (v1 : Int32) (v2 : Int32) (v3 : Int32) (v4 : Int32) (v5 : Int32) (v6 : Int32) (V : xV) : Option (Int32 × xV) := (if 4 ≤ v6 then some (v5, V) else (if v1 = (-1) then g_Court_tally_41 k14 2000 v1 v2 v3 v4 v5 v6 v2 V else (Option.bind (f_Rolls_homeOf v1 V) fun p3 => (if ¬ p3 = v6 then k14 v1 v2 v3 v4 v5 (v6 + 1) V else g_Court_tally_41 k14 2000 v1 v2 v3 v4 v5 v6 v2 V))))
theorem tb_Court_tally_14 {L : xL} (k14 : Int32 → Int32 → Int32 → Int32 → Int32 → Int32 → xV → Option (Int32 × xV)) (res : Int32 × xV) (hk14 : ∀ (v1 : Int32) (v2 : Int32) (v3 : Int32) (v4 : Int32) (v5 : Int32) (v6 : Int32) (V : xV), k14 v1 v2 v3 v4 v5 v6 V = some res → X M_Court_tally (xRm (7) M_Court_tally) (xZ M_Court_tally (fun o h' => o = some (.int res.1) ∧ h' = (SH, res.2, L))) SH V L 0 0 14 [(0, .ref 51), (1, .int v1), (2, .int v2), (3, .int v3), (4, .int v4), (5, .int v5), (6, .int v6)] []) (v1 : Int32) (v2 : Int32) (v3 : Int32) (v4 : Int32) (v5 : Int32) (v6 : Int32) (V : xV) (h : b_Court_tally_14 k14 v1 v2 v3 v4 v5 v6 V = some res) : X M_Court_tally (xRm (7) M_Court_tally) (xZ M_Court_tally (fun o h' => o = some (.int res.1) ∧ h' = (SH, res.2, L))) SH V L 0 0 14 [(0, .ref 51), (1, .int v1), (2, .int v2), (3, .int v3), (4, .int v4), (5, .int v5), (6, .int v6)] [] := by
  unfold b_Court_tally_14 at h
  refine x_iload 6 d_Court_tally_14 rfl ?_
  refine x_iconst 4 d_Court_tally_16 (by decide) ?_
  refine x_icmp_ge 79 d_Court_tally_17 (by decide) (fun c1 => ?_) (fun c1 => ?_)
  · replace h := xpos c1 h
    refine x_iload 5 d_Court_tally_79 rfl ?_
    obtain rfl := Option.some.inj h
    exact x_ireturn rfl d_Court_tally_81 (Nat.le_refl _) (Nat.le_refl _) ⟨rfl, rfl⟩
  · replace h := xneg c1 h
    refine x_iload_n 1 d_Court_tally_20 rfl rfl ?_
    refine x_iconst (-1) d_Court_tally_21 (by decide) ?_
    refine x_icmp_eq 38 d_Court_tally_22 (by decide) (fun c2 => ?_) (fun c2 => ?_)
    · replace h := xpos c2 h
      refine x_iload_n 2 d_Court_tally_38 rfl rfl ?_
      refine x_istore [(7, .int v2), (0, .ref 51), (1, .int v1), (2, .int v2), (3, .int v3), (4, .int v4), (5, .int v5), (6, .int v6)] d_Court_tally_39 (Nat.le_of_ble_eq_true rfl) rfl ?_
      refine x_pick [1, 2, 3, 4, 5, 6, 7, 0] rfl ?_
      exact tg_Court_tally_41 (L := L) k14 res hk14 _ v1 v2 v3 v4 v5 v6 v2 V h
    · replace h := xneg c2 h
      refine x_aload_n 0 d_Court_tally_25 rfl rfl ?_
      refine x_getP (q := 1) f_Court_29 sh_51 rfl d_Court_tally_26 ?_
      refine x_iload_n 1 d_Court_tally_29 rfl rfl ?_
      obtain ⟨p3, e4, h⟩ := xbind h
      refine x_callV0 e_Court_91 sh_1 rfl (t_Rolls_homeOf v1 V L _ e4) rfl rfl rfl (Nat.le_of_ble_eq_true rfl) (xfit_of (by omega) (Nat.le_of_ble_eq_true rfl)) (Nat.zero_le _) (Nat.zero_le _) d_Court_tally_30 ?_
      refine x_iload 6 d_Court_tally_33 rfl ?_
      refine x_icmp_ne 73 d_Court_tally_35 (by decide) (fun c5 => ?_) (fun c5 => ?_)
      · replace h := xpos c5 h
        refine x_iinc 6 1 [(6, .int (v6 + 1)), (0, .ref 51), (1, .int v1), (2, .int v2), (3, .int v3), (4, .int v4), (5, .int v5)] d_Court_tally_73 rfl (by decide) (Nat.le_of_ble_eq_true rfl) rfl ?_
        refine x_goto 14 d_Court_tally_76 (by decide) ?_
        refine x_pick [1, 2, 3, 4, 5, 6, 0] rfl ?_
        exact hk14 v1 v2 v3 v4 v5 (v6 + 1) V h
      · replace h := xneg c5 h
        refine x_iload_n 2 d_Court_tally_38 rfl rfl ?_
        refine x_istore [(7, .int v2), (0, .ref 51), (1, .int v1), (2, .int v2), (3, .int v3), (4, .int v4), (5, .int v5), (6, .int v6)] d_Court_tally_39 (Nat.le_of_ble_eq_true rfl) rfl ?_
        refine x_pick [1, 2, 3, 4, 5, 6, 7, 0] rfl ?_
        exact tg_Court_tally_41 (L := L) k14 res hk14 _ v1 v2 v3 v4 v5 v6 v2 V h
def g_Court_tally_14  : Nat → Int32 → Int32 → Int32 → Int32 → Int32 → Int32 → xV → Option (Int32 × xV)
  | 0, _, _, _, _, _, _, _ => none
  | n + 1, v1, v2, v3, v4, v5, v6, V => b_Court_tally_14 (g_Court_tally_14  n) v1 v2 v3 v4 v5 v6 V
theorem tg_Court_tally_14 {L : xL} (res : Int32 × xV)  : ∀ (n : Nat) (v1 : Int32) (v2 : Int32) (v3 : Int32) (v4 : Int32) (v5 : Int32) (v6 : Int32) (V : xV), g_Court_tally_14  n v1 v2 v3 v4 v5 v6 V = some res → X M_Court_tally (xRm (7) M_Court_tally) (xZ M_Court_tally (fun o h' => o = some (.int res.1) ∧ h' = (SH, res.2, L))) SH V L 0 0 14 [(0, .ref 51), (1, .int v1), (2, .int v2), (3, .int v3), (4, .int v4), (5, .int v5), (6, .int v6)] []
  | 0, _, _, _, _, _, _, _, h => by cases h
  | n + 1, v1, v2, v3, v4, v5, v6, V, h => tb_Court_tally_14 (L := L) (g_Court_tally_14  n) res (tg_Court_tally_14 (L := L) res n) v1 v2 v3 v4 v5 v6 V h
def f_Court_tally (a1 : Int32) (a2 : Int32) (a3 : Int32) (a4 : Int32) (V : xV) : Option (Int32 × xV) := g_Court_tally_14 2000 a1 a2 a3 a4 0 0 (xfill V 56 12 0)
theorem t_Court_tally (a1 : Int32) (a2 : Int32) (a3 : Int32) (a4 : Int32) (V : xV) (L : xL) (res : Int32 × xV) (h : f_Court_tally a1 a2 a3 a4 V = some res) : xRuns (7) M_Court_tally [.ref 51, .int a1, .int a2, .int a3, .int a4] (SH, V, L) (fun o h' => o = some (.int res.1) ∧ h' = (SH, res.2, L)) := by
  refine xRuns_of (by decide) (Nat.le_of_ble_eq_true rfl) ?_
  unfold f_Court_tally at h
  show X M_Court_tally (xRm (7) M_Court_tally) (xZ M_Court_tally (fun o h' => o = some (.int res.1) ∧ h' = (SH, res.2, L))) SH V L 0 0 0 [(0, .ref 51), (1, .int a1), (2, .int a2), (3, .int a3), (4, .int a4)] []
  refine x_aload_n 0 d_Court_tally_0 rfl rfl ?_
  refine x_getP (q := 56) f_Court_26 sh_51 rfl d_Court_tally_1 ?_
  refine x_iconst 0 d_Court_tally_4 (by decide) ?_
  refine x_fill0 li_Court_101 (xfit_of (by omega) (Nat.le_of_ble_eq_true rfl)) (Nat.zero_le _) (Nat.zero_le _) (Nat.le_of_ble_eq_true rfl) sh_56 (Nat.le_of_ble_eq_true rfl) d_Court_tally_5 ?_
  refine x_iconst 0 d_Court_tally_8 (by decide) ?_
  refine x_istore [(5, .int 0), (0, .ref 51), (1, .int a1), (2, .int a2), (3, .int a3), (4, .int a4)] d_Court_tally_9 (Nat.le_of_ble_eq_true rfl) rfl ?_
  refine x_iconst 0 d_Court_tally_11 (by decide) ?_
  refine x_istore [(6, .int 0), (5, .int 0), (0, .ref 51), (1, .int a1), (2, .int a2), (3, .int a3), (4, .int a4)] d_Court_tally_12 (Nat.le_of_ble_eq_true rfl) rfl ?_
  refine x_pick [2, 3, 4, 5, 6, 1, 0] rfl ?_
  exact tg_Court_tally_14 (L := L) res _ a1 a2 a3 a4 0 0 (xfill V 56 12 0) h
-- Ww_sum
def b_Ww_sum_19 (v1 : Int32) (v2 : Int32) (v3 : Int32) (v4 : Int32) (V : xV) : Option (Int32 × xV) := (if ¬ (f_Ww_areDays v2 v3) = 0 then (Option.bind (f_Court_tally v1 v2 v3 v4 V) fun p6 => some (p6.1, p6.2)) else some ((-100000000), V))
theorem tb_Ww_sum_19 {L : xL} (res : Int32 × xV)  (v1 : Int32) (v2 : Int32) (v3 : Int32) (v4 : Int32) (V : xV) (h : b_Ww_sum_19 v1 v2 v3 v4 V = some res) : X M_Ww_sum (xRm (8) M_Ww_sum) (xZ M_Ww_sum (fun o h' => o = some (.int res.1) ∧ h' = (SH, res.2, L))) SH V L 0 0 19 [(0, .ref 0), (1, .int v1), (2, .int v2), (3, .int v3), (4, .int v4)] [] := by
  unfold b_Ww_sum_19 at h
  refine x_iload_n 2 d_Ww_sum_19 rfl rfl ?_
  refine x_iload_n 3 d_Ww_sum_20 rfl rfl ?_
  refine x_callS0 e_Ww_138 (t_Ww_areDays v2 v3 V L _ rfl) rfl rfl rfl (Nat.le_of_ble_eq_true rfl) (xfit_of (by omega) (Nat.le_of_ble_eq_true rfl)) (Nat.zero_le _) (Nat.zero_le _) d_Ww_sum_21 ?_
  refine x_if_ne 30 d_Ww_sum_24 (by decide) (fun c5 => ?_) (fun c5 => ?_)
  · replace h := xpos c5 h
    refine x_aload_n 0 d_Ww_sum_30 rfl rfl ?_
    refine x_getP (q := 51) f_Ww_53 sh_0 rfl d_Ww_sum_31 ?_
    refine x_iload_n 1 d_Ww_sum_34 rfl rfl ?_
    refine x_iload_n 2 d_Ww_sum_35 rfl rfl ?_
    refine x_iload_n 3 d_Ww_sum_36 rfl rfl ?_
    refine x_iload 4 d_Ww_sum_37 rfl ?_
    obtain ⟨p6, e7, h⟩ := xbind h
    refine x_callV0 e_Ww_190 sh_51 rfl (t_Court_tally v1 v2 v3 v4 V L _ e7) rfl rfl rfl (Nat.le_of_ble_eq_true rfl) (xfit_of (by omega) (Nat.le_of_ble_eq_true rfl)) (Nat.zero_le _) (Nat.zero_le _) d_Ww_sum_39 ?_
    obtain rfl := Option.some.inj h
    exact x_ireturn rfl d_Ww_sum_42 (Nat.le_refl _) (Nat.le_refl _) ⟨rfl, rfl⟩
  · replace h := xneg c5 h
    refine x_ldc c_Ww_189 d_Ww_sum_27 ?_
    obtain rfl := Option.some.inj h
    exact x_ireturn rfl d_Ww_sum_29 (Nat.le_refl _) (Nat.le_refl _) ⟨rfl, rfl⟩
def f_Ww_sum (a1 : Int32) (a2 : Int32) (a3 : Int32) (a4 : Int32) (V : xV) : Option (Int32 × xV) := (if a1 = (-1) then b_Ww_sum_19 a1 a2 a3 a4 V else (if (f_Ww_within a1 (V 1 7)) = 0 then some ((-100000000), V) else b_Ww_sum_19 a1 a2 a3 a4 V))
theorem t_Ww_sum (a1 : Int32) (a2 : Int32) (a3 : Int32) (a4 : Int32) (V : xV) (L : xL) (res : Int32 × xV) (h : f_Ww_sum a1 a2 a3 a4 V = some res) : xRuns (8) M_Ww_sum [.ref 0, .int a1, .int a2, .int a3, .int a4] (SH, V, L) (fun o h' => o = some (.int res.1) ∧ h' = (SH, res.2, L)) := by
  refine xRuns_of (by decide) (Nat.le_of_ble_eq_true rfl) ?_
  unfold f_Ww_sum at h
  show X M_Ww_sum (xRm (8) M_Ww_sum) (xZ M_Ww_sum (fun o h' => o = some (.int res.1) ∧ h' = (SH, res.2, L))) SH V L 0 0 0 [(0, .ref 0), (1, .int a1), (2, .int a2), (3, .int a3), (4, .int a4)] []
  refine x_iload_n 1 d_Ww_sum_0 rfl rfl ?_
  refine x_iconst (-1) d_Ww_sum_1 (by decide) ?_
  refine x_icmp_eq 19 d_Ww_sum_2 (by decide) (fun c1 => ?_) (fun c1 => ?_)
  · replace h := xpos c1 h
    exact tb_Ww_sum_19 (L := L) res a1 a2 a3 a4 V h
  · replace h := xneg c1 h
    refine x_iload_n 1 d_Ww_sum_5 rfl rfl ?_
    refine x_aload_n 0 d_Ww_sum_6 rfl rfl ?_
    refine x_getP (q := 1) f_Ww_10 sh_0 rfl d_Ww_sum_7 ?_
    refine x_getI f_Ww_170 sh_1 rfl d_Ww_sum_10 ?_
    refine x_callS0 e_Ww_80 (t_Ww_within a1 (V 1 7) V L _ rfl) rfl rfl rfl (Nat.le_of_ble_eq_true rfl) (xfit_of (by omega) (Nat.le_of_ble_eq_true rfl)) (Nat.zero_le _) (Nat.zero_le _) d_Ww_sum_13 ?_
    refine x_if_eq 27 d_Ww_sum_16 (by decide) (fun c3 => ?_) (fun c3 => ?_)
    · replace h := xpos c3 h
      refine x_ldc c_Ww_189 d_Ww_sum_27 ?_
      obtain rfl := Option.some.inj h
      exact x_ireturn rfl d_Ww_sum_29 (Nat.le_refl _) (Nat.le_refl _) ⟨rfl, rfl⟩
    · replace h := xneg c3 h
      exact tb_Ww_sum_19 (L := L) res a1 a2 a3 a4 V h
-- Court_totalOf
def f_Court_totalOf (a1 : Int32) (V : xV) : Option (Int32) := (if (f_Ww_within a1 12) = 0 then some 0 else (if xI a1 12 = true then some (V 56 a1.toNatClampNeg) else none))
theorem t_Court_totalOf (a1 : Int32) (V : xV) (L : xL) (res : Int32) (h : f_Court_totalOf a1 V = some res) : xRuns (2) M_Court_totalOf [.ref 51, .int a1] (SH, V, L) (fun o h' => o = some (.int res) ∧ h' = (SH, V, L)) := by
  refine xRuns_of (by decide) (Nat.le_of_ble_eq_true rfl) ?_
  unfold f_Court_totalOf at h
  show X M_Court_totalOf (xRm (2) M_Court_totalOf) (xZ M_Court_totalOf (fun o h' => o = some (.int res) ∧ h' = (SH, V, L))) SH V L 0 0 0 [(0, .ref 51), (1, .int a1)] []
  refine x_iload_n 1 d_Court_totalOf_0 rfl rfl ?_
  refine x_bipush 12 d_Court_totalOf_1 (by decide) ?_
  refine x_callSN0 e_Court_80 (t_Ww_within a1 12 V L _ rfl) rfl rfl rfl (Nat.le_of_ble_eq_true rfl) (xfit_of (by omega) (Nat.le_of_ble_eq_true rfl)) (Nat.zero_le _) (Nat.zero_le _) d_Court_totalOf_3 ?_
  refine x_if_eq 18 d_Court_totalOf_6 (by decide) (fun c2 => ?_) (fun c2 => ?_)
  · replace h := xpos c2 h
    refine x_iconst 0 d_Court_totalOf_18 (by decide) ?_
    obtain rfl := Option.some.inj h
    exact x_ireturn rfl d_Court_totalOf_19 (Nat.le_refl _) (Nat.le_refl _) ⟨rfl, rfl⟩
  · replace h := xneg c2 h
    refine x_aload_n 0 d_Court_totalOf_9 rfl rfl ?_
    refine x_getP (q := 56) f_Court_26 sh_51 rfl d_Court_totalOf_10 ?_
    refine x_iload_n 1 d_Court_totalOf_13 rfl rfl ?_
    obtain ⟨c3, h⟩ := xguard h
    refine x_iaload sh_56 c3 d_Court_totalOf_14 ?_
    refine x_goto 19 d_Court_totalOf_15 (by decide) ?_
    obtain rfl := Option.some.inj h
    exact x_ireturn rfl d_Court_totalOf_19 (Nat.le_refl _) (Nat.le_refl _) ⟨rfl, rfl⟩
-- Ww_ruined
def b_Ww_ruined_17 (k17 : Int32 → Int32 → Int32 → xV → Option (Int32 × xV)) (v1 : Int32) (v2 : Int32) (v3 : Int32) (V : xV) : Option (Int32 × xV) := (if (V 1 7) ≤ v3 then (if ¬ v1 = (-1) then some ((-1), V) else some (v2, V)) else (Option.bind (f_Court_totalOf v3 V) fun p5 => (if (0 - (V 1 8)) ≤ p5 then k17 v1 v2 (v3 + 1) V else (if ¬ v2 = v1 then k17 v1 (v2 + 1) (v3 + 1) V else some (v3, V)))))
theorem tb_Ww_ruined_17 {L : xL} (k17 : Int32 → Int32 → Int32 → xV → Option (Int32 × xV)) (res : Int32 × xV) (hk17 : ∀ (v1 : Int32) (v2 : Int32) (v3 : Int32) (V : xV), k17 v1 v2 v3 V = some res → X M_Ww_ruined (xRm (8) M_Ww_ruined) (xZ M_Ww_ruined (fun o h' => o = some (.int res.1) ∧ h' = (SH, res.2, L))) SH V L 0 0 17 [(0, .ref 0), (1, .int v1), (2, .int v2), (3, .int v3)] []) (v1 : Int32) (v2 : Int32) (v3 : Int32) (V : xV) (h : b_Ww_ruined_17 k17 v1 v2 v3 V = some res) : X M_Ww_ruined (xRm (8) M_Ww_ruined) (xZ M_Ww_ruined (fun o h' => o = some (.int res.1) ∧ h' = (SH, res.2, L))) SH V L 0 0 17 [(0, .ref 0), (1, .int v1), (2, .int v2), (3, .int v3)] [] := by
  unfold b_Ww_ruined_17 at h
  refine x_iload_n 3 d_Ww_ruined_17 rfl rfl ?_
  refine x_aload_n 0 d_Ww_ruined_18 rfl rfl ?_
  refine x_getP (q := 1) f_Ww_10 sh_0 rfl d_Ww_ruined_19 ?_
  refine x_getI f_Ww_170 sh_1 rfl d_Ww_ruined_22 ?_
  refine x_icmp_ge 63 d_Ww_ruined_25 (by decide) (fun c3 => ?_) (fun c3 => ?_)
  · replace h := xpos c3 h
    refine x_iload_n 1 d_Ww_ruined_63 rfl rfl ?_
    refine x_iconst (-1) d_Ww_ruined_64 (by decide) ?_
    refine x_icmp_ne 72 d_Ww_ruined_65 (by decide) (fun c4 => ?_) (fun c4 => ?_)
    · replace h := xpos c4 h
      refine x_iconst (-1) d_Ww_ruined_72 (by decide) ?_
      obtain rfl := Option.some.inj h
      exact x_ireturn rfl d_Ww_ruined_73 (Nat.le_refl _) (Nat.le_refl _) ⟨rfl, rfl⟩
    · replace h := xneg c4 h
      refine x_iload_n 2 d_Ww_ruined_68 rfl rfl ?_
      refine x_goto 73 d_Ww_ruined_69 (by decide) ?_
      obtain rfl := Option.some.inj h
      exact x_ireturn rfl d_Ww_ruined_73 (Nat.le_refl _) (Nat.le_refl _) ⟨rfl, rfl⟩
  · replace h := xneg c3 h
    refine x_aload_n 0 d_Ww_ruined_28 rfl rfl ?_
    refine x_getP (q := 51) f_Ww_53 sh_0 rfl d_Ww_ruined_29 ?_
    refine x_iload_n 3 d_Ww_ruined_32 rfl rfl ?_
    obtain ⟨p5, e6, h⟩ := xbind h
    refine x_callV0 e_Ww_194 sh_51 rfl (t_Court_totalOf v3 V L _ e6) rfl rfl rfl (Nat.le_of_ble_eq_true rfl) (xfit_of (by omega) (Nat.le_of_ble_eq_true rfl)) (Nat.zero_le _) (Nat.zero_le _) d_Ww_ruined_33 ?_
    refine x_aload_n 0 d_Ww_ruined_36 rfl rfl ?_
    refine x_getP (q := 1) f_Ww_10 sh_0 rfl d_Ww_ruined_37 ?_
    refine x_getI f_Ww_103 sh_1 rfl d_Ww_ruined_40 ?_
    refine x_ineg d_Ww_ruined_43 ?_
    refine x_icmp_ge 57 d_Ww_ruined_44 (by decide) (fun c7 => ?_) (fun c7 => ?_)
    · replace h := xpos c7 h
      refine x_iinc 3 1 [(3, .int (v3 + 1)), (0, .ref 0), (1, .int v1), (2, .int v2)] d_Ww_ruined_57 rfl (by decide) (Nat.le_of_ble_eq_true rfl) rfl ?_
      refine x_goto 17 d_Ww_ruined_60 (by decide) ?_
      refine x_pick [1, 2, 3, 0] rfl ?_
      exact hk17 v1 v2 (v3 + 1) V h
    · replace h := xneg c7 h
      refine x_iload_n 2 d_Ww_ruined_47 rfl rfl ?_
      refine x_iload_n 1 d_Ww_ruined_48 rfl rfl ?_
      refine x_icmp_ne 54 d_Ww_ruined_49 (by decide) (fun c8 => ?_) (fun c8 => ?_)
      · replace h := xpos c8 h
        refine x_iinc 2 1 [(2, .int (v2 + 1)), (0, .ref 0), (1, .int v1), (3, .int v3)] d_Ww_ruined_54 rfl (by decide) (Nat.le_of_ble_eq_true rfl) rfl ?_
        refine x_iinc 3 1 [(3, .int (v3 + 1)), (2, .int (v2 + 1)), (0, .ref 0), (1, .int v1)] d_Ww_ruined_57 rfl (by decide) (Nat.le_of_ble_eq_true rfl) rfl ?_
        refine x_goto 17 d_Ww_ruined_60 (by decide) ?_
        refine x_pick [2, 3, 1, 0] rfl ?_
        exact hk17 v1 (v2 + 1) (v3 + 1) V h
      · replace h := xneg c8 h
        refine x_iload_n 3 d_Ww_ruined_52 rfl rfl ?_
        obtain rfl := Option.some.inj h
        exact x_ireturn rfl d_Ww_ruined_53 (Nat.le_refl _) (Nat.le_refl _) ⟨rfl, rfl⟩
def g_Ww_ruined_17  : Nat → Int32 → Int32 → Int32 → xV → Option (Int32 × xV)
  | 0, _, _, _, _ => none
  | n + 1, v1, v2, v3, V => b_Ww_ruined_17 (g_Ww_ruined_17  n) v1 v2 v3 V
theorem tg_Ww_ruined_17 {L : xL} (res : Int32 × xV)  : ∀ (n : Nat) (v1 : Int32) (v2 : Int32) (v3 : Int32) (V : xV), g_Ww_ruined_17  n v1 v2 v3 V = some res → X M_Ww_ruined (xRm (8) M_Ww_ruined) (xZ M_Ww_ruined (fun o h' => o = some (.int res.1) ∧ h' = (SH, res.2, L))) SH V L 0 0 17 [(0, .ref 0), (1, .int v1), (2, .int v2), (3, .int v3)] []
  | 0, _, _, _, _, h => by cases h
  | n + 1, v1, v2, v3, V, h => tb_Ww_ruined_17 (L := L) (g_Ww_ruined_17  n) res (tg_Ww_ruined_17 (L := L) res n) v1 v2 v3 V h
def f_Ww_ruined (a1 : Int32) (V : xV) : Option (Int32 × xV) := (Option.bind (f_Court_tally (-1) 0 29 0 V) fun p1 => g_Ww_ruined_17 2000 a1 0 0 p1.2)
theorem t_Ww_ruined (a1 : Int32) (V : xV) (L : xL) (res : Int32 × xV) (h : f_Ww_ruined a1 V = some res) : xRuns (8) M_Ww_ruined [.ref 0, .int a1] (SH, V, L) (fun o h' => o = some (.int res.1) ∧ h' = (SH, res.2, L)) := by
  refine xRuns_of (by decide) (Nat.le_of_ble_eq_true rfl) ?_
  unfold f_Ww_ruined at h
  show X M_Ww_ruined (xRm (8) M_Ww_ruined) (xZ M_Ww_ruined (fun o h' => o = some (.int res.1) ∧ h' = (SH, res.2, L))) SH V L 0 0 0 [(0, .ref 0), (1, .int a1)] []
  refine x_aload_n 0 d_Ww_ruined_0 rfl rfl ?_
  refine x_getP (q := 51) f_Ww_53 sh_0 rfl d_Ww_ruined_1 ?_
  refine x_iconst (-1) d_Ww_ruined_4 (by decide) ?_
  refine x_iconst 0 d_Ww_ruined_5 (by decide) ?_
  refine x_bipush 29 d_Ww_ruined_6 (by decide) ?_
  refine x_iconst 0 d_Ww_ruined_8 (by decide) ?_
  obtain ⟨p1, e2, h⟩ := xbind h
  refine x_callV0 e_Ww_190 sh_51 rfl (t_Court_tally (-1) 0 29 0 V L _ e2) rfl rfl rfl (Nat.le_of_ble_eq_true rfl) (xfit_of (by omega) (Nat.le_of_ble_eq_true rfl)) (Nat.zero_le _) (Nat.zero_le _) d_Ww_ruined_9 ?_
  refine x_pop d_Ww_ruined_12 rfl ?_
  refine x_iconst 0 d_Ww_ruined_13 (by decide) ?_
  refine x_istore_n [(2, .int 0), (0, .ref 0), (1, .int a1)] d_Ww_ruined_14 rfl (Nat.le_of_ble_eq_true rfl) rfl ?_
  refine x_iconst 0 d_Ww_ruined_15 (by decide) ?_
  refine x_istore_n [(3, .int 0), (2, .int 0), (0, .ref 0), (1, .int a1)] d_Ww_ruined_16 rfl (Nat.le_of_ble_eq_true rfl) rfl ?_
  refine x_pick [2, 3, 1, 0] rfl ?_
  exact tg_Ww_ruined_17 (L := L) res _ a1 0 0 p1.2 h
-- Court_moreByOther
def f_Court_moreByOther (a1 : Int32) (a2 : Int32) (V : xV) : Option (Int32 × xV) := (Option.bind (f_Rolls_homeOf a1 V) fun p1 => (Option.bind (f_Court_sitAsItIs a2 p1 V) fun p3 => (Option.bind (f_Court_gainOf a1 0 p3) fun p5 => (Option.bind (f_Rolls_decreeOf a2 p1 p5.2) fun p7 => (Option.bind (f_Court_sit a2 p1 (1 - p7) p5.2) fun p9 => (Option.bind (f_Court_gainOf a1 0 p9) fun p11 => some (p11.1 - p5.1, p11.2)))))))
theorem t_Court_moreByOther (a1 : Int32) (a2 : Int32) (V : xV) (L : xL) (res : Int32 × xV) (h : f_Court_moreByOther a1 a2 V = some res) : xRuns (6) M_Court_moreByOther [.ref 51, .int a1, .int a2] (SH, V, L) (fun o h' => o = some (.int res.1) ∧ h' = (SH, res.2, L)) := by
  refine xRuns_of (by decide) (Nat.le_of_ble_eq_true rfl) ?_
  unfold f_Court_moreByOther at h
  show X M_Court_moreByOther (xRm (6) M_Court_moreByOther) (xZ M_Court_moreByOther (fun o h' => o = some (.int res.1) ∧ h' = (SH, res.2, L))) SH V L 0 0 0 [(0, .ref 51), (1, .int a1), (2, .int a2)] []
  refine x_aload_n 0 d_Court_moreByOther_0 rfl rfl ?_
  refine x_getP (q := 1) f_Court_29 sh_51 rfl d_Court_moreByOther_1 ?_
  refine x_iload_n 1 d_Court_moreByOther_4 rfl rfl ?_
  obtain ⟨p1, e2, h⟩ := xbind h
  refine x_callV0 e_Court_91 sh_1 rfl (t_Rolls_homeOf a1 V L _ e2) rfl rfl rfl (Nat.le_of_ble_eq_true rfl) (xfit_of (by omega) (Nat.le_of_ble_eq_true rfl)) (Nat.zero_le _) (Nat.zero_le _) d_Court_moreByOther_5 ?_
  refine x_istore_n [(3, .int p1), (0, .ref 51), (1, .int a1), (2, .int a2)] d_Court_moreByOther_8 rfl (Nat.le_of_ble_eq_true rfl) rfl ?_
  refine x_aload_n 1 d_Court_moreByOther_9 rfl rfl ?_
  refine x_iload_n 3 d_Court_moreByOther_10 rfl rfl ?_
  refine x_iload_n 0 d_Court_moreByOther_11 rfl rfl ?_
  obtain ⟨p3, e4, h⟩ := xbind h
  refine x_callV0v e_Court_98 sh_51 rfl (t_Court_sitAsItIs a2 p1 V L _ e4) rfl rfl rfl (Nat.le_of_ble_eq_true rfl) (xfit_of (by omega) (Nat.le_of_ble_eq_true rfl)) (Nat.zero_le _) (Nat.zero_le _) d_Court_moreByOther_12 ?_
  refine x_aload_n 1 d_Court_moreByOther_15 rfl rfl ?_
  refine x_iload_n 2 d_Court_moreByOther_16 rfl rfl ?_
  refine x_iconst 0 d_Court_moreByOther_17 (by decide) ?_
  obtain ⟨p5, e6, h⟩ := xbind h
  refine x_callV0 e_Court_94 sh_51 rfl (t_Court_gainOf a1 0 p3 L _ e6) rfl rfl rfl (Nat.le_of_ble_eq_true rfl) (xfit_of (by omega) (Nat.le_of_ble_eq_true rfl)) (Nat.zero_le _) (Nat.zero_le _) d_Court_moreByOther_18 ?_
  refine x_istore [(4, .int p5.1), (3, .int p1), (0, .ref 51), (1, .int a1), (2, .int a2)] d_Court_moreByOther_21 (Nat.le_of_ble_eq_true rfl) rfl ?_
  refine x_aload_n 2 d_Court_moreByOther_23 rfl rfl ?_
  refine x_iload_n 4 d_Court_moreByOther_24 rfl rfl ?_
  refine x_iload_n 1 d_Court_moreByOther_25 rfl rfl ?_
  refine x_iconst 1 d_Court_moreByOther_26 (by decide) ?_
  refine x_aload_n 2 d_Court_moreByOther_27 rfl rfl ?_
  refine x_getP (q := 1) f_Court_29 sh_51 rfl d_Court_moreByOther_28 ?_
  refine x_iload_n 4 d_Court_moreByOther_31 rfl rfl ?_
  refine x_iload_n 1 d_Court_moreByOther_32 rfl rfl ?_
  obtain ⟨p7, e8, h⟩ := xbind h
  refine x_callV0 e_Court_37 sh_1 rfl (t_Rolls_decreeOf a2 p1 p5.2 L _ e8) rfl rfl rfl (Nat.le_of_ble_eq_true rfl) (xfit_of (by omega) (Nat.le_of_ble_eq_true rfl)) (Nat.zero_le _) (Nat.zero_le _) d_Court_moreByOther_33 ?_
  refine x_isub d_Court_moreByOther_36 ?_
  obtain ⟨p9, e10, h⟩ := xbind h
  refine x_callV0v e_Court_43 sh_51 rfl (t_Court_sit a2 p1 (1 - p7) p5.2 L _ e10) rfl rfl rfl (Nat.le_of_ble_eq_true rfl) (xfit_of (by omega) (Nat.le_of_ble_eq_true rfl)) (Nat.zero_le _) (Nat.zero_le _) d_Court_moreByOther_37 ?_
  refine x_aload_n 2 d_Court_moreByOther_40 rfl rfl ?_
  refine x_iload_n 3 d_Court_moreByOther_41 rfl rfl ?_
  refine x_iconst 0 d_Court_moreByOther_42 (by decide) ?_
  obtain ⟨p11, e12, h⟩ := xbind h
  refine x_callV0 e_Court_94 sh_51 rfl (t_Court_gainOf a1 0 p9 L _ e12) rfl rfl rfl (Nat.le_of_ble_eq_true rfl) (xfit_of (by omega) (Nat.le_of_ble_eq_true rfl)) (Nat.zero_le _) (Nat.zero_le _) d_Court_moreByOther_43 ?_
  refine x_iload 0 d_Court_moreByOther_46 rfl ?_
  refine x_isub d_Court_moreByOther_48 ?_
  obtain rfl := Option.some.inj h
  exact x_ireturn rfl d_Court_moreByOther_49 (Nat.le_refl _) (Nat.le_refl _) ⟨rfl, rfl⟩
-- Ww_led
def b_Ww_led_32 (k32 : Int32 → Int32 → Int32 → Int32 → Int32 → xV → Option (Int32 × xV)) (v1 : Int32) (v2 : Int32) (v3 : Int32) (v4 : Int32) (v5 : Int32) (V : xV) : Option (Int32 × xV) := (if 30 ≤ v5 then (if ¬ v3 = (-1) then (if ¬ v2 = 0 then some (v4, V) else some (v3, V)) else some ((-1), V)) else (Option.bind (f_Court_moreByOther v1 v5 V) fun p8 => (if p8.1 ≤ v4 then k32 v1 v2 v3 v4 (v5 + 1) p8.2 else k32 v1 v2 v5 p8.1 (v5 + 1) p8.2)))
theorem tb_Ww_led_32 {L : xL} (k32 : Int32 → Int32 → Int32 → Int32 → Int32 → xV → Option (Int32 × xV)) (res : Int32 × xV) (hk32 : ∀ (v1 : Int32) (v2 : Int32) (v3 : Int32) (v4 : Int32) (v5 : Int32) (V : xV), k32 v1 v2 v3 v4 v5 V = some res → X M_Ww_led (xRm (7) M_Ww_led) (xZ M_Ww_led (fun o h' => o = some (.int res.1) ∧ h' = (SH, res.2, L))) SH V L 0 0 32 [(0, .ref 0), (1, .int v1), (2, .int v2), (3, .int v3), (4, .int v4), (5, .int v5)] []) (v1 : Int32) (v2 : Int32) (v3 : Int32) (v4 : Int32) (v5 : Int32) (V : xV) (h : b_Ww_led_32 k32 v1 v2 v3 v4 v5 V = some res) : X M_Ww_led (xRm (7) M_Ww_led) (xZ M_Ww_led (fun o h' => o = some (.int res.1) ∧ h' = (SH, res.2, L))) SH V L 0 0 32 [(0, .ref 0), (1, .int v1), (2, .int v2), (3, .int v3), (4, .int v4), (5, .int v5)] [] := by
  unfold b_Ww_led_32 at h
  refine x_iload 5 d_Ww_led_32 rfl ?_
  refine x_bipush 30 d_Ww_led_34 (by decide) ?_
  refine x_icmp_ge 71 d_Ww_led_36 (by decide) (fun c5 => ?_) (fun c5 => ?_)
  · replace h := xpos c5 h
    refine x_iload_n 3 d_Ww_led_71 rfl rfl ?_
    refine x_iconst (-1) d_Ww_led_72 (by decide) ?_
    refine x_icmp_ne 78 d_Ww_led_73 (by decide) (fun c6 => ?_) (fun c6 => ?_)
    · replace h := xpos c6 h
      refine x_iload_n 2 d_Ww_led_78 rfl rfl ?_
      refine x_if_ne 86 d_Ww_led_79 (by decide) (fun c7 => ?_) (fun c7 => ?_)
      · replace h := xpos c7 h
        refine x_iload 4 d_Ww_led_86 rfl ?_
        obtain rfl := Option.some.inj h
        exact x_ireturn rfl d_Ww_led_88 (Nat.le_refl _) (Nat.le_refl _) ⟨rfl, rfl⟩
      · replace h := xneg c7 h
        refine x_iload_n 3 d_Ww_led_82 rfl rfl ?_
        refine x_goto 88 d_Ww_led_83 (by decide) ?_
        obtain rfl := Option.some.inj h
        exact x_ireturn rfl d_Ww_led_88 (Nat.le_refl _) (Nat.le_refl _) ⟨rfl, rfl⟩
    · replace h := xneg c6 h
      refine x_iconst (-1) d_Ww_led_76 (by decide) ?_
      obtain rfl := Option.some.inj h
      exact x_ireturn rfl d_Ww_led_77 (Nat.le_refl _) (Nat.le_refl _) ⟨rfl, rfl⟩
  · replace h := xneg c5 h
    refine x_aload_n 0 d_Ww_led_39 rfl rfl ?_
    refine x_getP (q := 51) f_Ww_53 sh_0 rfl d_Ww_led_40 ?_
    refine x_iload_n 1 d_Ww_led_43 rfl rfl ?_
    refine x_iload 5 d_Ww_led_44 rfl ?_
    obtain ⟨p8, e9, h⟩ := xbind h
    refine x_callV0 e_Ww_197 sh_51 rfl (t_Court_moreByOther v1 v5 V L _ e9) rfl rfl rfl (Nat.le_of_ble_eq_true rfl) (xfit_of (by omega) (Nat.le_of_ble_eq_true rfl)) (Nat.zero_le _) (Nat.zero_le _) d_Ww_led_46 ?_
    refine x_istore [(6, .int p8.1), (0, .ref 0), (1, .int v1), (2, .int v2), (3, .int v3), (4, .int v4), (5, .int v5)] d_Ww_led_49 (Nat.le_of_ble_eq_true rfl) rfl ?_
    refine x_iload 0 d_Ww_led_51 rfl ?_
    refine x_iload 5 d_Ww_led_53 rfl ?_
    refine x_icmp_le 65 d_Ww_led_55 (by decide) (fun c10 => ?_) (fun c10 => ?_)
    · replace h := xpos c10 h
      refine x_iinc 6 1 [(5, .int (v5 + 1)), (6, .int p8.1), (0, .ref 0), (1, .int v1), (2, .int v2), (3, .int v3), (4, .int v4)] d_Ww_led_65 rfl (by decide) (Nat.le_of_ble_eq_true rfl) rfl ?_
      refine x_goto 32 d_Ww_led_68 (by decide) ?_
      refine x_pick [2, 3, 4, 5, 6, 0] rfl ?_
      exact hk32 v1 v2 v3 v4 (v5 + 1) p8.2 h
    · replace h := xneg c10 h
      refine x_iload 0 d_Ww_led_58 rfl ?_
      refine x_istore [(4, .int p8.1), (6, .int p8.1), (0, .ref 0), (1, .int v1), (2, .int v2), (3, .int v3), (5, .int v5)] d_Ww_led_60 (Nat.le_of_ble_eq_true rfl) rfl ?_
      refine x_iload 6 d_Ww_led_62 rfl ?_
      refine x_istore_n [(3, .int v5), (4, .int p8.1), (6, .int p8.1), (0, .ref 0), (1, .int v1), (2, .int v2), (5, .int v5)] d_Ww_led_64 rfl (Nat.le_of_ble_eq_true rfl) rfl ?_
      refine x_iinc 6 1 [(5, .int (v5 + 1)), (3, .int v5), (4, .int p8.1), (6, .int p8.1), (0, .ref 0), (1, .int v1), (2, .int v2)] d_Ww_led_65 rfl (by decide) (Nat.le_of_ble_eq_true rfl) rfl ?_
      refine x_goto 32 d_Ww_led_68 (by decide) ?_
      refine x_pick [4, 5, 6, 1, 2, 0] rfl ?_
      exact hk32 v1 v2 v5 p8.1 (v5 + 1) p8.2 h
def g_Ww_led_32  : Nat → Int32 → Int32 → Int32 → Int32 → Int32 → xV → Option (Int32 × xV)
  | 0, _, _, _, _, _, _ => none
  | n + 1, v1, v2, v3, v4, v5, V => b_Ww_led_32 (g_Ww_led_32  n) v1 v2 v3 v4 v5 V
theorem tg_Ww_led_32 {L : xL} (res : Int32 × xV)  : ∀ (n : Nat) (v1 : Int32) (v2 : Int32) (v3 : Int32) (v4 : Int32) (v5 : Int32) (V : xV), g_Ww_led_32  n v1 v2 v3 v4 v5 V = some res → X M_Ww_led (xRm (7) M_Ww_led) (xZ M_Ww_led (fun o h' => o = some (.int res.1) ∧ h' = (SH, res.2, L))) SH V L 0 0 32 [(0, .ref 0), (1, .int v1), (2, .int v2), (3, .int v3), (4, .int v4), (5, .int v5)] []
  | 0, _, _, _, _, _, _, h => by cases h
  | n + 1, v1, v2, v3, v4, v5, V, h => tb_Ww_led_32 (L := L) (g_Ww_led_32  n) res (tg_Ww_led_32 (L := L) res n) v1 v2 v3 v4 v5 V h
def f_Ww_led (a1 : Int32) (a2 : Int32) (V : xV) : Option (Int32 × xV) := (if (f_Ww_within a1 (V 1 7)) = 0 then some ((-1), V) else (if ¬ (f_Ww_within a2 2) = 0 then g_Ww_led_32 2000 a1 a2 (-1) 0 0 V else some ((-1), V)))
theorem t_Ww_led (a1 : Int32) (a2 : Int32) (V : xV) (L : xL) (res : Int32 × xV) (h : f_Ww_led a1 a2 V = some res) : xRuns (7) M_Ww_led [.ref 0, .int a1, .int a2] (SH, V, L) (fun o h' => o = some (.int res.1) ∧ h' = (SH, res.2, L)) := by
  refine xRuns_of (by decide) (Nat.le_of_ble_eq_true rfl) ?_
  unfold f_Ww_led at h
  show X M_Ww_led (xRm (7) M_Ww_led) (xZ M_Ww_led (fun o h' => o = some (.int res.1) ∧ h' = (SH, res.2, L))) SH V L 0 0 0 [(0, .ref 0), (1, .int a1), (2, .int a2)] []
  refine x_iload_n 1 d_Ww_led_0 rfl rfl ?_
  refine x_aload_n 0 d_Ww_led_1 rfl rfl ?_
  refine x_getP (q := 1) f_Ww_10 sh_0 rfl d_Ww_led_2 ?_
  refine x_getI f_Ww_170 sh_1 rfl d_Ww_led_5 ?_
  refine x_callS0 e_Ww_80 (t_Ww_within a1 (V 1 7) V L _ rfl) rfl rfl rfl (Nat.le_of_ble_eq_true rfl) (xfit_of (by omega) (Nat.le_of_ble_eq_true rfl)) (Nat.zero_le _) (Nat.zero_le _) d_Ww_led_8 ?_
  refine x_if_eq 22 d_Ww_led_11 (by decide) (fun c2 => ?_) (fun c2 => ?_)
  · replace h := xpos c2 h
    refine x_iconst (-1) d_Ww_led_22 (by decide) ?_
    obtain rfl := Option.some.inj h
    exact x_ireturn rfl d_Ww_led_23 (Nat.le_refl _) (Nat.le_refl _) ⟨rfl, rfl⟩
  · replace h := xneg c2 h
    refine x_iload_n 2 d_Ww_led_14 rfl rfl ?_
    refine x_iconst 2 d_Ww_led_15 (by decide) ?_
    refine x_callS0 e_Ww_80 (t_Ww_within a2 2 V L _ rfl) rfl rfl rfl (Nat.le_of_ble_eq_true rfl) (xfit_of (by omega) (Nat.le_of_ble_eq_true rfl)) (Nat.zero_le _) (Nat.zero_le _) d_Ww_led_16 ?_
    refine x_if_ne 24 d_Ww_led_19 (by decide) (fun c4 => ?_) (fun c4 => ?_)
    · replace h := xpos c4 h
      refine x_iconst (-1) d_Ww_led_24 (by decide) ?_
      refine x_istore_n [(3, .int (-1)), (0, .ref 0), (1, .int a1), (2, .int a2)] d_Ww_led_25 rfl (Nat.le_of_ble_eq_true rfl) rfl ?_
      refine x_iconst 0 d_Ww_led_26 (by decide) ?_
      refine x_istore [(4, .int 0), (3, .int (-1)), (0, .ref 0), (1, .int a1), (2, .int a2)] d_Ww_led_27 (Nat.le_of_ble_eq_true rfl) rfl ?_
      refine x_iconst 0 d_Ww_led_29 (by decide) ?_
      refine x_istore [(5, .int 0), (4, .int 0), (3, .int (-1)), (0, .ref 0), (1, .int a1), (2, .int a2)] d_Ww_led_30 (Nat.le_of_ble_eq_true rfl) rfl ?_
      refine x_pick [3, 4, 5, 2, 1, 0] rfl ?_
      exact tg_Ww_led_32 (L := L) res _ a1 a2 (-1) 0 0 V h
    · replace h := xneg c4 h
      refine x_iconst (-1) d_Ww_led_22 (by decide) ?_
      obtain rfl := Option.some.inj h
      exact x_ireturn rfl d_Ww_led_23 (Nat.le_refl _) (Nat.le_refl _) ⟨rfl, rfl⟩
-- Ww_commonOf
def b_Ww_commonOf_7 (k7 : Int32 → Int32 → Int32 → Option (Int32)) (v2 : Int32) (v3 : Int32) (v4 : Int32) : Option (Int32) := (if 100 ≤ v4 then some v2 else (if v3 = 0 then some v2 else (if ¬ v3 = 0 then k7 v3 (xrem v2 v3) (v4 + 1) else none)))
theorem tb_Ww_commonOf_7 {V : xV} {L : xL} (k7 : Int32 → Int32 → Int32 → Option (Int32)) (res : Int32) (hk7 : ∀ (v2 : Int32) (v3 : Int32) (v4 : Int32), k7 v2 v3 v4 = some res → X M_Ww_commonOf (xRm (1) M_Ww_commonOf) (xZ M_Ww_commonOf (fun o h' => o = some (.int res) ∧ h' = (SH, V, L))) SH V L 0 0 7 [(2, .int v2), (3, .int v3), (4, .int v4)] []) (v2 : Int32) (v3 : Int32) (v4 : Int32) (h : b_Ww_commonOf_7 k7 v2 v3 v4 = some res) : X M_Ww_commonOf (xRm (1) M_Ww_commonOf) (xZ M_Ww_commonOf (fun o h' => o = some (.int res) ∧ h' = (SH, V, L))) SH V L 0 0 7 [(2, .int v2), (3, .int v3), (4, .int v4)] [] := by
  unfold b_Ww_commonOf_7 at h
  refine x_iload 2 d_Ww_commonOf_7 rfl ?_
  refine x_bipush 100 d_Ww_commonOf_9 (by decide) ?_
  refine x_icmp_ge 34 d_Ww_commonOf_11 (by decide) (fun c1 => ?_) (fun c1 => ?_)
  · replace h := xpos c1 h
    refine x_iload_n 0 d_Ww_commonOf_34 rfl rfl ?_
    obtain rfl := Option.some.inj h
    exact x_ireturn rfl d_Ww_commonOf_35 (Nat.le_refl _) (Nat.le_refl _) ⟨rfl, rfl⟩
  · replace h := xneg c1 h
    refine x_iload_n 1 d_Ww_commonOf_14 rfl rfl ?_
    refine x_if_eq 34 d_Ww_commonOf_15 (by decide) (fun c2 => ?_) (fun c2 => ?_)
    · replace h := xpos c2 h
      refine x_iload_n 0 d_Ww_commonOf_34 rfl rfl ?_
      obtain rfl := Option.some.inj h
      exact x_ireturn rfl d_Ww_commonOf_35 (Nat.le_refl _) (Nat.le_refl _) ⟨rfl, rfl⟩
    · replace h := xneg c2 h
      refine x_iload_n 0 d_Ww_commonOf_18 rfl rfl ?_
      refine x_iload_n 1 d_Ww_commonOf_19 rfl rfl ?_
      obtain ⟨c3, h⟩ := xguard h
      refine x_irem2 d_Ww_commonOf_20 c3 ?_
      refine x_istore [(5, .int (xrem v2 v3)), (2, .int v2), (3, .int v3), (4, .int v4)] d_Ww_commonOf_21 (Nat.le_of_ble_eq_true rfl) rfl ?_
      refine x_iload_n 2 d_Ww_commonOf_23 rfl rfl ?_
      refine x_istore_n [(2, .int v3), (5, .int (xrem v2 v3)), (3, .int v3), (4, .int v4)] d_Ww_commonOf_24 rfl (Nat.le_of_ble_eq_true rfl) rfl ?_
      refine x_iload 1 d_Ww_commonOf_25 rfl ?_
      refine x_istore_n [(3, .int (xrem v2 v3)), (2, .int v3), (5, .int (xrem v2 v3)), (4, .int v4)] d_Ww_commonOf_27 rfl (Nat.le_of_ble_eq_true rfl) rfl ?_
      refine x_iinc 3 1 [(4, .int (v4 + 1)), (3, .int (xrem v2 v3)), (2, .int v3), (5, .int (xrem v2 v3))] d_Ww_commonOf_28 rfl (by decide) (Nat.le_of_ble_eq_true rfl) rfl ?_
      refine x_goto 7 d_Ww_commonOf_31 (by decide) ?_
      refine x_pick [2, 1, 0] rfl ?_
      exact hk7 v3 (xrem v2 v3) (v4 + 1) h
def g_Ww_commonOf_7  : Nat → Int32 → Int32 → Int32 → Option (Int32)
  | 0, _, _, _ => none
  | n + 1, v2, v3, v4 => b_Ww_commonOf_7 (g_Ww_commonOf_7  n) v2 v3 v4
theorem tg_Ww_commonOf_7 {V : xV} {L : xL} (res : Int32)  : ∀ (n : Nat) (v2 : Int32) (v3 : Int32) (v4 : Int32), g_Ww_commonOf_7  n v2 v3 v4 = some res → X M_Ww_commonOf (xRm (1) M_Ww_commonOf) (xZ M_Ww_commonOf (fun o h' => o = some (.int res) ∧ h' = (SH, V, L))) SH V L 0 0 7 [(2, .int v2), (3, .int v3), (4, .int v4)] []
  | 0, _, _, _, h => by cases h
  | n + 1, v2, v3, v4, h => tb_Ww_commonOf_7 (V := V) (L := L) (g_Ww_commonOf_7  n) res (tg_Ww_commonOf_7 (V := V) (L := L) res n) v2 v3 v4 h
def f_Ww_commonOf (a0 : Int32) (a1 : Int32) : Option (Int32) := g_Ww_commonOf_7 2000 a0 a1 0
theorem t_Ww_commonOf (a0 : Int32) (a1 : Int32) (V : xV) (L : xL) (res : Int32) (h : f_Ww_commonOf a0 a1 = some res) : xRuns (1) M_Ww_commonOf [.int a0, .int a1] (SH, V, L) (fun o h' => o = some (.int res) ∧ h' = (SH, V, L)) := by
  refine xRuns_of (by decide) (Nat.le_of_ble_eq_true rfl) ?_
  unfold f_Ww_commonOf at h
  show X M_Ww_commonOf (xRm (1) M_Ww_commonOf) (xZ M_Ww_commonOf (fun o h' => o = some (.int res) ∧ h' = (SH, V, L))) SH V L 0 0 0 [(0, .int a0), (1, .int a1)] []
  refine x_iload_n 0 d_Ww_commonOf_0 rfl rfl ?_
  refine x_istore_n [(2, .int a0), (0, .int a0), (1, .int a1)] d_Ww_commonOf_1 rfl (Nat.le_of_ble_eq_true rfl) rfl ?_
  refine x_iload_n 2 d_Ww_commonOf_2 rfl rfl ?_
  refine x_istore_n [(3, .int a1), (2, .int a0), (0, .int a0), (1, .int a1)] d_Ww_commonOf_3 rfl (Nat.le_of_ble_eq_true rfl) rfl ?_
  refine x_iconst 0 d_Ww_commonOf_4 (by decide) ?_
  refine x_istore [(4, .int 0), (3, .int a1), (2, .int a0), (0, .int a0), (1, .int a1)] d_Ww_commonOf_5 (Nat.le_of_ble_eq_true rfl) rfl ?_
  refine x_pick [2, 1, 0] rfl ?_
  exact tg_Ww_commonOf_7 (V := V) (L := L) res _ a0 a1 0 h
-- Court_allDoAlike
def b_Court_allDoAlike_12 (k12 : Int32 → xV → Option (Int32 × xV)) (v2 : Int32) (V : xV) : Option (Int32 × xV) := (if (V 1 7) ≤ v2 then some (1, V) else (if 12 ≤ v2 then some (1, V) else (if xI v2 12 = true then (if ¬ (V 2 v2.toNatClampNeg) = (V 51 7) then k12 (v2 + 1) V else (Option.bind (f_Court_call v2 V) fun p7 => (Option.bind (f_Court_comesTo 1 p7) fun p9 => (if xI v2 12 = true then (if p9.1 = (p9.2 55 v2.toNatClampNeg) then k12 (v2 + 1) p9.2 else some (0, p9.2)) else none)))) else none)))
theorem tb_Court_allDoAlike_12 {L : xL} (k12 : Int32 → xV → Option (Int32 × xV)) (res : Int32 × xV) (hk12 : ∀ (v2 : Int32) (V : xV), k12 v2 V = some res → X M_Court_allDoAlike (xRm (4) M_Court_allDoAlike) (xZ M_Court_allDoAlike (fun o h' => o = some (.int res.1) ∧ h' = (SH, res.2, L))) SH V L 0 0 12 [(0, .ref 51), (2, .int v2)] []) (v2 : Int32) (V : xV) (h : b_Court_allDoAlike_12 k12 v2 V = some res) : X M_Court_allDoAlike (xRm (4) M_Court_allDoAlike) (xZ M_Court_allDoAlike (fun o h' => o = some (.int res.1) ∧ h' = (SH, res.2, L))) SH V L 0 0 12 [(0, .ref 51), (2, .int v2)] [] := by
  unfold b_Court_allDoAlike_12 at h
  refine x_iload_n 1 d_Court_allDoAlike_12 rfl rfl ?_
  refine x_aload_n 0 d_Court_allDoAlike_13 rfl rfl ?_
  refine x_getP (q := 1) f_Court_29 sh_51 rfl d_Court_allDoAlike_14 ?_
  refine x_getI f_Court_67 sh_1 rfl d_Court_allDoAlike_17 ?_
  refine x_icmp_ge 72 d_Court_allDoAlike_20 (by decide) (fun c3 => ?_) (fun c3 => ?_)
  · replace h := xpos c3 h
    refine x_iconst 1 d_Court_allDoAlike_72 (by decide) ?_
    obtain rfl := Option.some.inj h
    exact x_zreturn rfl rfl d_Court_allDoAlike_73 (Nat.le_refl _) (Nat.le_refl _) ⟨rfl, rfl⟩
  · replace h := xneg c3 h
    refine x_iload_n 1 d_Court_allDoAlike_23 rfl rfl ?_
    refine x_bipush 12 d_Court_allDoAlike_24 (by decide) ?_
    refine x_icmp_ge 72 d_Court_allDoAlike_26 (by decide) (fun c4 => ?_) (fun c4 => ?_)
    · replace h := xpos c4 h
      refine x_iconst 1 d_Court_allDoAlike_72 (by decide) ?_
      obtain rfl := Option.some.inj h
      exact x_zreturn rfl rfl d_Court_allDoAlike_73 (Nat.le_refl _) (Nat.le_refl _) ⟨rfl, rfl⟩
    · replace h := xneg c4 h
      refine x_aload_n 0 d_Court_allDoAlike_29 rfl rfl ?_
      refine x_getP (q := 1) f_Court_29 sh_51 rfl d_Court_allDoAlike_30 ?_
      refine x_getP (q := 2) f_Court_70 sh_1 rfl d_Court_allDoAlike_33 ?_
      refine x_iload_n 1 d_Court_allDoAlike_36 rfl rfl ?_
      obtain ⟨c5, h⟩ := xguard h
      refine x_iaload sh_2 c5 d_Court_allDoAlike_37 ?_
      refine x_aload_n 0 d_Court_allDoAlike_38 rfl rfl ?_
      refine x_getI f_Court_51 sh_51 rfl d_Court_allDoAlike_39 ?_
      refine x_icmp_ne 66 d_Court_allDoAlike_42 (by decide) (fun c6 => ?_) (fun c6 => ?_)
      · replace h := xpos c6 h
        refine x_iinc 1 1 [(2, .int (v2 + 1)), (0, .ref 51)] d_Court_allDoAlike_66 rfl (by decide) (Nat.le_of_ble_eq_true rfl) rfl ?_
        refine x_goto 12 d_Court_allDoAlike_69 (by decide) ?_
        refine x_pick [1, 0] rfl ?_
        exact hk12 (v2 + 1) V h
      · replace h := xneg c6 h
        refine x_aload_n 0 d_Court_allDoAlike_45 rfl rfl ?_
        refine x_iload_n 1 d_Court_allDoAlike_46 rfl rfl ?_
        obtain ⟨p7, e8, h⟩ := xbind h
        refine x_callV0v e_Court_73 sh_51 rfl (t_Court_call v2 V L _ e8) rfl rfl rfl (Nat.le_of_ble_eq_true rfl) (xfit_of (by omega) (Nat.le_of_ble_eq_true rfl)) (Nat.zero_le _) (Nat.zero_le _) d_Court_allDoAlike_47 ?_
        refine x_aload_n 0 d_Court_allDoAlike_50 rfl rfl ?_
        refine x_iconst 1 d_Court_allDoAlike_51 (by decide) ?_
        obtain ⟨p9, e10, h⟩ := xbind h
        refine x_callV0 e_Court_77 sh_51 rfl (t_Court_comesTo 1 p7 L _ e10) rfl rfl rfl (Nat.le_of_ble_eq_true rfl) (xfit_of (by omega) (Nat.le_of_ble_eq_true rfl)) (Nat.zero_le _) (Nat.zero_le _) d_Court_allDoAlike_52 ?_
        refine x_aload_n 0 d_Court_allDoAlike_55 rfl rfl ?_
        refine x_getP (q := 55) f_Court_22 sh_51 rfl d_Court_allDoAlike_56 ?_
        refine x_iload_n 1 d_Court_allDoAlike_59 rfl rfl ?_
        obtain ⟨c11, h⟩ := xguard h
        refine x_iaload sh_55 c11 d_Court_allDoAlike_60 ?_
        refine x_icmp_eq 66 d_Court_allDoAlike_61 (by decide) (fun c12 => ?_) (fun c12 => ?_)
        · replace h := xpos c12 h
          refine x_iinc 1 1 [(2, .int (v2 + 1)), (0, .ref 51)] d_Court_allDoAlike_66 rfl (by decide) (Nat.le_of_ble_eq_true rfl) rfl ?_
          refine x_goto 12 d_Court_allDoAlike_69 (by decide) ?_
          refine x_pick [1, 0] rfl ?_
          exact hk12 (v2 + 1) p9.2 h
        · replace h := xneg c12 h
          refine x_iconst 0 d_Court_allDoAlike_64 (by decide) ?_
          obtain rfl := Option.some.inj h
          exact x_zreturn rfl rfl d_Court_allDoAlike_65 (Nat.le_refl _) (Nat.le_refl _) ⟨rfl, rfl⟩
def g_Court_allDoAlike_12  : Nat → Int32 → xV → Option (Int32 × xV)
  | 0, _, _ => none
  | n + 1, v2, V => b_Court_allDoAlike_12 (g_Court_allDoAlike_12  n) v2 V
theorem tg_Court_allDoAlike_12 {L : xL} (res : Int32 × xV)  : ∀ (n : Nat) (v2 : Int32) (V : xV), g_Court_allDoAlike_12  n v2 V = some res → X M_Court_allDoAlike (xRm (4) M_Court_allDoAlike) (xZ M_Court_allDoAlike (fun o h' => o = some (.int res.1) ∧ h' = (SH, res.2, L))) SH V L 0 0 12 [(0, .ref 51), (2, .int v2)] []
  | 0, _, _, h => by cases h
  | n + 1, v2, V, h => tb_Court_allDoAlike_12 (L := L) (g_Court_allDoAlike_12  n) res (tg_Court_allDoAlike_12 (L := L) res n) v2 V h
def f_Court_allDoAlike (a1 : Int32) (V : xV) : Option (Int32 × xV) := (Option.bind (f_Bench_tell 13 a1 V) fun p1 => g_Court_allDoAlike_12 2000 0 p1)
theorem t_Court_allDoAlike (a1 : Int32) (V : xV) (L : xL) (res : Int32 × xV) (h : f_Court_allDoAlike a1 V = some res) : xRuns (4) M_Court_allDoAlike [.ref 51, .int a1] (SH, V, L) (fun o h' => o = some (.int res.1) ∧ h' = (SH, res.2, L)) := by
  refine xRuns_of (by decide) (Nat.le_of_ble_eq_true rfl) ?_
  unfold f_Court_allDoAlike at h
  show X M_Court_allDoAlike (xRm (4) M_Court_allDoAlike) (xZ M_Court_allDoAlike (fun o h' => o = some (.int res.1) ∧ h' = (SH, res.2, L))) SH V L 0 0 0 [(0, .ref 51), (1, .int a1)] []
  refine x_aload_n 0 d_Court_allDoAlike_0 rfl rfl ?_
  refine x_getP (q := 52) f_Court_18 sh_51 rfl d_Court_allDoAlike_1 ?_
  refine x_bipush 13 d_Court_allDoAlike_4 (by decide) ?_
  refine x_iload_n 1 d_Court_allDoAlike_6 rfl rfl ?_
  obtain ⟨p1, e2, h⟩ := xbind h
  refine x_callV0v e_Court_60 sh_52 rfl (t_Bench_tell 13 a1 V L _ e2) rfl rfl rfl (Nat.le_of_ble_eq_true rfl) (xfit_of (by omega) (Nat.le_of_ble_eq_true rfl)) (Nat.zero_le _) (Nat.zero_le _) d_Court_allDoAlike_7 ?_
  refine x_iconst 0 d_Court_allDoAlike_10 (by decide) ?_
  refine x_istore_n [(2, .int 0), (0, .ref 51), (1, .int a1)] d_Court_allDoAlike_11 rfl (Nat.le_of_ble_eq_true rfl) rfl ?_
  refine x_pick [1, 0] rfl ?_
  exact tg_Court_allDoAlike_12 (L := L) res _ 0 p1 h
-- Ww_odds
def b_Ww_odds_45 (k45 : Int32 → Int32 → Int32 → Int32 → xV → Option (Int32 × xV)) (v3 : Int32) (v4 : Int32) (v5 : Int32) (v6 : Int32) (V : xV) : Option (Int32 × xV) := (if 10 ≤ v6 then (if ¬ v5 = 0 then (Option.bind (f_Ww_commonOf v5 v4) fun p11 => (if ¬ v3 = 0 then (if ¬ (xmax 1 p11) = 0 then some (v5 / (xmax 1 p11), V) else none) else (if ¬ (xmax 1 p11) = 0 then some (v4 / (xmax 1 p11), V) else none))) else some ((-1), V)) else (Option.bind (f_Court_allDoAlike v6 V) fun p16 => (if p16.1 = 0 then k45 v3 v4 v5 (v6 + 1) p16.2 else (if xI v6 10 = true then (if v6 < 5 then k45 v3 (v4 + 0) (v5 + (p16.2 7 v6.toNatClampNeg)) (v6 + 1) p16.2 else (if xI v6 10 = true then k45 v3 (v4 + (p16.2 7 v6.toNatClampNeg)) (v5 + (p16.2 7 v6.toNatClampNeg)) (v6 + 1) p16.2 else none)) else none))))
theorem tb_Ww_odds_45 {L : xL} (k45 : Int32 → Int32 → Int32 → Int32 → xV → Option (Int32 × xV)) (res : Int32 × xV) (hk45 : ∀ (v3 : Int32) (v4 : Int32) (v5 : Int32) (v6 : Int32) (V : xV), k45 v3 v4 v5 v6 V = some res → X M_Ww_odds (xRm (6) M_Ww_odds) (xZ M_Ww_odds (fun o h' => o = some (.int res.1) ∧ h' = (SH, res.2, L))) SH V L 0 0 45 [(0, .ref 0), (3, .int v3), (4, .int v4), (5, .int v5), (6, .int v6)] []) (v3 : Int32) (v4 : Int32) (v5 : Int32) (v6 : Int32) (V : xV) (h : b_Ww_odds_45 k45 v3 v4 v5 v6 V = some res) : X M_Ww_odds (xRm (6) M_Ww_odds) (xZ M_Ww_odds (fun o h' => o = some (.int res.1) ∧ h' = (SH, res.2, L))) SH V L 0 0 45 [(0, .ref 0), (3, .int v3), (4, .int v4), (5, .int v5), (6, .int v6)] [] := by
  unfold b_Ww_odds_45 at h
  refine x_iload 4 d_Ww_odds_45 rfl ?_
  refine x_bipush 10 d_Ww_odds_47 (by decide) ?_
  refine x_icmp_ge 110 d_Ww_odds_49 (by decide) (fun c9 => ?_) (fun c9 => ?_)
  · replace h := xpos c9 h
    refine x_iload 3 d_Ww_odds_110 rfl ?_
    refine x_if_ne 117 d_Ww_odds_112 (by decide) (fun c10 => ?_) (fun c10 => ?_)
    · replace h := xpos c10 h
      refine x_iload 3 d_Ww_odds_117 rfl ?_
      refine x_iload 2 d_Ww_odds_119 rfl ?_
      obtain ⟨p11, e12, h⟩ := xbind h
      refine x_callS0 e_Ww_203 (t_Ww_commonOf v5 v4 V L _ e12) rfl rfl rfl (Nat.le_of_ble_eq_true rfl) (xfit_of (by omega) (Nat.le_of_ble_eq_true rfl)) (Nat.zero_le _) (Nat.zero_le _) d_Ww_odds_121 ?_
      refine x_istore [(6, .int p11), (0, .ref 0), (3, .int v3), (4, .int v4), (5, .int v5)] d_Ww_odds_124 (Nat.le_of_ble_eq_true rfl) rfl ?_
      refine x_iload_n 2 d_Ww_odds_126 rfl rfl ?_
      refine x_if_ne 135 d_Ww_odds_127 (by decide) (fun c13 => ?_) (fun c13 => ?_)
      · replace h := xpos c13 h
        refine x_iload 4 d_Ww_odds_135 rfl ?_
        refine x_iconst 1 d_Ww_odds_137 (by decide) ?_
        refine x_iload 0 d_Ww_odds_138 rfl ?_
        refine x_max0 li_Ww_206 (xlib_of (by omega)) (Nat.le_of_ble_eq_true rfl) d_Ww_odds_140 ?_
        obtain ⟨c14, h⟩ := xguard h
        refine x_idiv d_Ww_odds_143 c14 ?_
        obtain rfl := Option.some.inj h
        exact x_ireturn rfl d_Ww_odds_144 (Nat.le_refl _) (Nat.le_refl _) ⟨rfl, rfl⟩
      · replace h := xneg c13 h
        refine x_iload 3 d_Ww_odds_130 rfl ?_
        refine x_goto 137 d_Ww_odds_132 (by decide) ?_
        refine x_iconst 1 d_Ww_odds_137 (by decide) ?_
        refine x_iload 0 d_Ww_odds_138 rfl ?_
        refine x_max0 li_Ww_206 (xlib_of (by omega)) (Nat.le_of_ble_eq_true rfl) d_Ww_odds_140 ?_
        obtain ⟨c15, h⟩ := xguard h
        refine x_idiv d_Ww_odds_143 c15 ?_
        obtain rfl := Option.some.inj h
        exact x_ireturn rfl d_Ww_odds_144 (Nat.le_refl _) (Nat.le_refl _) ⟨rfl, rfl⟩
    · replace h := xneg c10 h
      refine x_iconst (-1) d_Ww_odds_115 (by decide) ?_
      obtain rfl := Option.some.inj h
      exact x_ireturn rfl d_Ww_odds_116 (Nat.le_refl _) (Nat.le_refl _) ⟨rfl, rfl⟩
  · replace h := xneg c9 h
    refine x_aload_n 0 d_Ww_odds_52 rfl rfl ?_
    refine x_getP (q := 51) f_Ww_53 sh_0 rfl d_Ww_odds_53 ?_
    refine x_iload 4 d_Ww_odds_56 rfl ?_
    obtain ⟨p16, e17, h⟩ := xbind h
    refine x_callV0 e_Ww_200 sh_51 rfl (t_Court_allDoAlike v6 V L _ e17) rfl rfl rfl (Nat.le_of_ble_eq_true rfl) (xfit_of (by omega) (Nat.le_of_ble_eq_true rfl)) (Nat.zero_le _) (Nat.zero_le _) d_Ww_odds_58 ?_
    refine x_if_eq 104 d_Ww_odds_61 (by decide) (fun c18 => ?_) (fun c18 => ?_)
    · replace h := xpos c18 h
      refine x_iinc 4 1 [(6, .int (v6 + 1)), (0, .ref 0), (3, .int v3), (4, .int v4), (5, .int v5)] d_Ww_odds_104 rfl (by decide) (Nat.le_of_ble_eq_true rfl) rfl ?_
      refine x_goto 45 d_Ww_odds_107 (by decide) ?_
      refine x_pick [1, 2, 3, 4, 0] rfl ?_
      exact hk45 v3 v4 v5 (v6 + 1) p16.2 h
    · replace h := xneg c18 h
      refine x_iload 3 d_Ww_odds_64 rfl ?_
      refine x_aload_n 0 d_Ww_odds_66 rfl rfl ?_
      refine x_getP (q := 1) f_Ww_10 sh_0 rfl d_Ww_odds_67 ?_
      refine x_getP (q := 7) f_Ww_100 sh_1 rfl d_Ww_odds_70 ?_
      refine x_iload 4 d_Ww_odds_73 rfl ?_
      obtain ⟨c19, h⟩ := xguard h
      refine x_iaload sh_7 c19 d_Ww_odds_75 ?_
      refine x_iadd d_Ww_odds_76 ?_
      refine x_istore [(5, .int (v5 + (p16.2 7 v6.toNatClampNeg))), (0, .ref 0), (3, .int v3), (4, .int v4), (6, .int v6)] d_Ww_odds_77 (Nat.le_of_ble_eq_true rfl) rfl ?_
      refine x_iload 3 d_Ww_odds_79 rfl ?_
      refine x_iload 4 d_Ww_odds_81 rfl ?_
      refine x_iconst 5 d_Ww_odds_83 (by decide) ?_
      refine x_icmp_lt 100 d_Ww_odds_84 (by decide) (fun c20 => ?_) (fun c20 => ?_)
      · replace h := xpos c20 h
        refine x_iconst 0 d_Ww_odds_100 (by decide) ?_
        refine x_iadd d_Ww_odds_101 ?_
        refine x_istore [(4, .int (v4 + 0)), (5, .int (v5 + (p16.2 7 v6.toNatClampNeg))), (0, .ref 0), (3, .int v3), (6, .int v6)] d_Ww_odds_102 (Nat.le_of_ble_eq_true rfl) rfl ?_
        refine x_iinc 4 1 [(6, .int (v6 + 1)), (4, .int (v4 + 0)), (5, .int (v5 + (p16.2 7 v6.toNatClampNeg))), (0, .ref 0), (3, .int v3)] d_Ww_odds_104 rfl (by decide) (Nat.le_of_ble_eq_true rfl) rfl ?_
        refine x_goto 45 d_Ww_odds_107 (by decide) ?_
        refine x_pick [3, 4, 1, 2, 0] rfl ?_
        exact hk45 v3 (v4 + 0) (v5 + (p16.2 7 v6.toNatClampNeg)) (v6 + 1) p16.2 h
      · replace h := xneg c20 h
        refine x_aload_n 1 d_Ww_odds_87 rfl rfl ?_
        refine x_getP (q := 1) f_Ww_10 sh_0 rfl d_Ww_odds_88 ?_
        refine x_getP (q := 7) f_Ww_100 sh_1 rfl d_Ww_odds_91 ?_
        refine x_iload 4 d_Ww_odds_94 rfl ?_
        obtain ⟨c21, h⟩ := xguard h
        refine x_iaload sh_7 c21 d_Ww_odds_96 ?_
        refine x_goto 101 d_Ww_odds_97 (by decide) ?_
        refine x_iadd d_Ww_odds_101 ?_
        refine x_istore [(4, .int (v4 + (p16.2 7 v6.toNatClampNeg))), (5, .int (v5 + (p16.2 7 v6.toNatClampNeg))), (0, .ref 0), (3, .int v3), (6, .int v6)] d_Ww_odds_102 (Nat.le_of_ble_eq_true rfl) rfl ?_
        refine x_iinc 4 1 [(6, .int (v6 + 1)), (4, .int (v4 + (p16.2 7 v6.toNatClampNeg))), (5, .int (v5 + (p16.2 7 v6.toNatClampNeg))), (0, .ref 0), (3, .int v3)] d_Ww_odds_104 rfl (by decide) (Nat.le_of_ble_eq_true rfl) rfl ?_
        refine x_goto 45 d_Ww_odds_107 (by decide) ?_
        refine x_pick [3, 4, 1, 2, 0] rfl ?_
        exact hk45 v3 (v4 + (p16.2 7 v6.toNatClampNeg)) (v5 + (p16.2 7 v6.toNatClampNeg)) (v6 + 1) p16.2 h
def g_Ww_odds_45  : Nat → Int32 → Int32 → Int32 → Int32 → xV → Option (Int32 × xV)
  | 0, _, _, _, _, _ => none
  | n + 1, v3, v4, v5, v6, V => b_Ww_odds_45 (g_Ww_odds_45  n) v3 v4 v5 v6 V
theorem tg_Ww_odds_45 {L : xL} (res : Int32 × xV)  : ∀ (n : Nat) (v3 : Int32) (v4 : Int32) (v5 : Int32) (v6 : Int32) (V : xV), g_Ww_odds_45  n v3 v4 v5 v6 V = some res → X M_Ww_odds (xRm (6) M_Ww_odds) (xZ M_Ww_odds (fun o h' => o = some (.int res.1) ∧ h' = (SH, res.2, L))) SH V L 0 0 45 [(0, .ref 0), (3, .int v3), (4, .int v4), (5, .int v5), (6, .int v6)] []
  | 0, _, _, _, _, _, h => by cases h
  | n + 1, v3, v4, v5, v6, V, h => tb_Ww_odds_45 (L := L) (g_Ww_odds_45  n) res (tg_Ww_odds_45 (L := L) res n) v3 v4 v5 v6 V h
def f_Ww_odds (a1 : Int32) (a2 : Int32) (a3 : Int32) (V : xV) : Option (Int32 × xV) := (if (f_Ww_within a1 30) = 0 then some ((-1), V) else (if (f_Ww_within a2 4) = 0 then some ((-1), V) else (if ¬ (f_Ww_within a3 2) = 0 then (Option.bind (f_Court_sitAsItIs a1 a2 V) fun p7 => g_Ww_odds_45 2000 a3 0 0 0 p7) else some ((-1), V))))
theorem t_Ww_odds (a1 : Int32) (a2 : Int32) (a3 : Int32) (V : xV) (L : xL) (res : Int32 × xV) (h : f_Ww_odds a1 a2 a3 V = some res) : xRuns (6) M_Ww_odds [.ref 0, .int a1, .int a2, .int a3] (SH, V, L) (fun o h' => o = some (.int res.1) ∧ h' = (SH, res.2, L)) := by
  refine xRuns_of (by decide) (Nat.le_of_ble_eq_true rfl) ?_
  unfold f_Ww_odds at h
  show X M_Ww_odds (xRm (6) M_Ww_odds) (xZ M_Ww_odds (fun o h' => o = some (.int res.1) ∧ h' = (SH, res.2, L))) SH V L 0 0 0 [(0, .ref 0), (1, .int a1), (2, .int a2), (3, .int a3)] []
  refine x_iload_n 1 d_Ww_odds_0 rfl rfl ?_
  refine x_bipush 30 d_Ww_odds_1 (by decide) ?_
  refine x_callS0 e_Ww_80 (t_Ww_within a1 30 V L _ rfl) rfl rfl rfl (Nat.le_of_ble_eq_true rfl) (xfit_of (by omega) (Nat.le_of_ble_eq_true rfl)) (Nat.zero_le _) (Nat.zero_le _) d_Ww_odds_3 ?_
  refine x_if_eq 25 d_Ww_odds_6 (by decide) (fun c2 => ?_) (fun c2 => ?_)
  · replace h := xpos c2 h
    refine x_iconst (-1) d_Ww_odds_25 (by decide) ?_
    obtain rfl := Option.some.inj h
    exact x_ireturn rfl d_Ww_odds_26 (Nat.le_refl _) (Nat.le_refl _) ⟨rfl, rfl⟩
  · replace h := xneg c2 h
    refine x_iload_n 2 d_Ww_odds_9 rfl rfl ?_
    refine x_iconst 4 d_Ww_odds_10 (by decide) ?_
    refine x_callS0 e_Ww_80 (t_Ww_within a2 4 V L _ rfl) rfl rfl rfl (Nat.le_of_ble_eq_true rfl) (xfit_of (by omega) (Nat.le_of_ble_eq_true rfl)) (Nat.zero_le _) (Nat.zero_le _) d_Ww_odds_11 ?_
    refine x_if_eq 25 d_Ww_odds_14 (by decide) (fun c4 => ?_) (fun c4 => ?_)
    · replace h := xpos c4 h
      refine x_iconst (-1) d_Ww_odds_25 (by decide) ?_
      obtain rfl := Option.some.inj h
      exact x_ireturn rfl d_Ww_odds_26 (Nat.le_refl _) (Nat.le_refl _) ⟨rfl, rfl⟩
    · replace h := xneg c4 h
      refine x_iload_n 3 d_Ww_odds_17 rfl rfl ?_
      refine x_iconst 2 d_Ww_odds_18 (by decide) ?_
      refine x_callS0 e_Ww_80 (t_Ww_within a3 2 V L _ rfl) rfl rfl rfl (Nat.le_of_ble_eq_true rfl) (xfit_of (by omega) (Nat.le_of_ble_eq_true rfl)) (Nat.zero_le _) (Nat.zero_le _) d_Ww_odds_19 ?_
      refine x_if_ne 27 d_Ww_odds_22 (by decide) (fun c6 => ?_) (fun c6 => ?_)
      · replace h := xpos c6 h
        refine x_aload_n 0 d_Ww_odds_27 rfl rfl ?_
        refine x_getP (q := 51) f_Ww_53 sh_0 rfl d_Ww_odds_28 ?_
        refine x_iload_n 1 d_Ww_odds_31 rfl rfl ?_
        refine x_iload_n 2 d_Ww_odds_32 rfl rfl ?_
        obtain ⟨p7, e8, h⟩ := xbind h
        refine x_callV0v e_Ww_163 sh_51 rfl (t_Court_sitAsItIs a1 a2 V L _ e8) rfl rfl rfl (Nat.le_of_ble_eq_true rfl) (xfit_of (by omega) (Nat.le_of_ble_eq_true rfl)) (Nat.zero_le _) (Nat.zero_le _) d_Ww_odds_33 ?_
        refine x_iconst 0 d_Ww_odds_36 (by decide) ?_
        refine x_istore [(4, .int 0), (0, .ref 0), (1, .int a1), (2, .int a2), (3, .int a3)] d_Ww_odds_37 (Nat.le_of_ble_eq_true rfl) rfl ?_
        refine x_iconst 0 d_Ww_odds_39 (by decide) ?_
        refine x_istore [(5, .int 0), (4, .int 0), (0, .ref 0), (1, .int a1), (2, .int a2), (3, .int a3)] d_Ww_odds_40 (Nat.le_of_ble_eq_true rfl) rfl ?_
        refine x_iconst 0 d_Ww_odds_42 (by decide) ?_
        refine x_istore [(6, .int 0), (5, .int 0), (4, .int 0), (0, .ref 0), (1, .int a1), (2, .int a2), (3, .int a3)] d_Ww_odds_43 (Nat.le_of_ble_eq_true rfl) rfl ?_
        refine x_pick [3, 6, 2, 1, 0] rfl ?_
        exact tg_Ww_odds_45 (L := L) res _ a3 0 0 0 p7 h
      · replace h := xneg c6 h
        refine x_iconst (-1) d_Ww_odds_25 (by decide) ?_
        obtain rfl := Option.some.inj h
        exact x_ireturn rfl d_Ww_odds_26 (Nat.le_refl _) (Nat.le_refl _) ⟨rfl, rfl⟩
-- Planner_follow
def b_Planner_follow_111 (r_Planner_follow : Int32 → Int32 → Int32 → Int32 → xV → Option (xV)) (k92 : Int32 → Int32 → Int32 → Int32 → Int32 → Int32 → xV → Option (xV)) (v1 : Int32) (v3 : Int32) (v4 : Int32) (v5 : Int32) (v6 : Int32) (v7 : Int32) (V : xV) : Option (xV) := (if xI v5 20 = true then (if xI ((2 * v1) + v7) 20 = true then (Option.bind (r_Planner_follow (v1 + 1) v7 (v3 + ((x2 V 59 v5.toNatClampNeg v7) 58 ((2 * v1) + v7).toNatClampNeg)) (v4 ||| (v7 <<< (v1 &&& 31))) (x2 V 59 v5.toNatClampNeg v7)) fun p16 => k92 v1 v3 v4 v5 v6 (v7 + 1) p16) else none) else none)
theorem tb_Planner_follow_111 (e : Nat) (he : 4 ≤ e) (r_Planner_follow : Int32 → Int32 → Int32 → Int32 → xV → Option (xV)) (hr_Planner_follow : ∀ (x0 x1 x2 x3 : Int32) (V : xV) (L : xL) (p : xV), r_Planner_follow x0 x1 x2 x3 V = some p → xRuns e M_Planner_follow [.ref 57, .int x0, .int x1, .int x2, .int x3] (SH, V, L) (fun o h' => o = none ∧ h' = (SH, p, L))) {L : xL} (k92 : Int32 → Int32 → Int32 → Int32 → Int32 → Int32 → xV → Option (xV)) (res : xV) (hk92 : ∀ (v1 : Int32) (v3 : Int32) (v4 : Int32) (v5 : Int32) (v6 : Int32) (v7 : Int32) (V : xV), k92 v1 v3 v4 v5 v6 v7 V = some res → X M_Planner_follow (xRm (e + 1) M_Planner_follow) (xZ M_Planner_follow (fun o h' => o = none ∧ h' = (SH, res, L))) SH V L 0 0 92 [(0, .ref 57), (1, .int v1), (3, .int v3), (4, .int v4), (5, .int v5), (6, .int v6), (7, .int v7)] []) (v1 : Int32) (v3 : Int32) (v4 : Int32) (v5 : Int32) (v6 : Int32) (v7 : Int32) (V : xV) (h : b_Planner_follow_111 r_Planner_follow k92 v1 v3 v4 v5 v6 v7 V = some res) : X M_Planner_follow (xRm (e + 1) M_Planner_follow) (xZ M_Planner_follow (fun o h' => o = none ∧ h' = (SH, res, L))) SH V L 0 0 111 [(0, .ref 57), (1, .int v1), (3, .int v3), (4, .int v4), (5, .int v5), (6, .int v6), (7, .int v7)] [] := by
  unfold b_Planner_follow_111 at h
  refine x_aload_n 0 d_Planner_follow_111 rfl rfl ?_
  refine x_getP (q := 59) f_Planner_15 sh_57 rfl d_Planner_follow_112 ?_
  refine x_iload 4 d_Planner_follow_115 rfl ?_
  refine x_iload 6 d_Planner_follow_117 rfl ?_
  obtain ⟨c14, h⟩ := xguard h
  refine x_iastore sh_59 c14 d_Planner_follow_119 ?_
  refine x_aload_n 0 d_Planner_follow_120 rfl rfl ?_
  refine x_iload_n 1 d_Planner_follow_121 rfl rfl ?_
  refine x_iconst 1 d_Planner_follow_122 (by decide) ?_
  refine x_iadd d_Planner_follow_123 ?_
  refine x_iload 6 d_Planner_follow_124 rfl ?_
  refine x_iload_n 2 d_Planner_follow_126 rfl rfl ?_
  refine x_aload_n 0 d_Planner_follow_127 rfl rfl ?_
  refine x_getP (q := 58) f_Planner_9 sh_57 rfl d_Planner_follow_128 ?_
  refine x_iconst 2 d_Planner_follow_131 (by decide) ?_
  refine x_iload_n 1 d_Planner_follow_132 rfl rfl ?_
  refine x_imul d_Planner_follow_133 ?_
  refine x_iload 6 d_Planner_follow_134 rfl ?_
  refine x_iadd d_Planner_follow_136 ?_
  obtain ⟨c15, h⟩ := xguard h
  refine x_iaload sh_58 c15 d_Planner_follow_137 ?_
  refine x_iadd d_Planner_follow_138 ?_
  refine x_iload 3 d_Planner_follow_139 rfl ?_
  refine x_iload 6 d_Planner_follow_141 rfl ?_
  refine x_iload_n 1 d_Planner_follow_143 rfl rfl ?_
  refine x_ishl d_Planner_follow_144 ?_
  refine x_ior d_Planner_follow_145 ?_
  obtain ⟨p16, e17, h⟩ := xbind h
  refine x_callV0v e_Planner_66 sh_57 rfl (hr_Planner_follow (v1 + 1) v7 (v3 + ((x2 V 59 v5.toNatClampNeg v7) 58 ((2 * v1) + v7).toNatClampNeg)) (v4 ||| (v7 <<< (v1 &&& 31))) (x2 V 59 v5.toNatClampNeg v7) L _ e17) rfl rfl rfl (Nat.le_of_ble_eq_true rfl) (xfit_of (by omega) (Nat.le_of_ble_eq_true rfl)) (Nat.zero_le _) (Nat.zero_le _) d_Planner_follow_146 ?_
  refine x_iinc 6 1 [(7, .int (v7 + 1)), (0, .ref 57), (1, .int v1), (3, .int v3), (4, .int v4), (5, .int v5), (6, .int v6)] d_Planner_follow_149 rfl (by decide) (Nat.le_of_ble_eq_true rfl) rfl ?_
  refine x_goto 92 d_Planner_follow_152 (by decide) ?_
  refine x_pick [1, 2, 3, 4, 5, 6, 0] rfl ?_
  exact hk92 v1 v3 v4 v5 v6 (v7 + 1) p16 h
def b_Planner_follow_92 (r_Planner_follow : Int32 → Int32 → Int32 → Int32 → xV → Option (xV)) (k92 : Int32 → Int32 → Int32 → Int32 → Int32 → Int32 → xV → Option (xV)) (v1 : Int32) (v3 : Int32) (v4 : Int32) (v5 : Int32) (v6 : Int32) (v7 : Int32) (V : xV) : Option (xV) := (if 1 < v7 then (if xI v5 20 = true then some (x2 V 59 v5.toNatClampNeg v6) else none) else (if v6 = (-1) then b_Planner_follow_111 r_Planner_follow k92 v1 v3 v4 v5 v6 v7 V else (if ¬ v6 = v7 then k92 v1 v3 v4 v5 v6 (v7 + 1) V else b_Planner_follow_111 r_Planner_follow k92 v1 v3 v4 v5 v6 v7 V)))
theorem tb_Planner_follow_92 (e : Nat) (he : 4 ≤ e) (r_Planner_follow : Int32 → Int32 → Int32 → Int32 → xV → Option (xV)) (hr_Planner_follow : ∀ (x0 x1 x2 x3 : Int32) (V : xV) (L : xL) (p : xV), r_Planner_follow x0 x1 x2 x3 V = some p → xRuns e M_Planner_follow [.ref 57, .int x0, .int x1, .int x2, .int x3] (SH, V, L) (fun o h' => o = none ∧ h' = (SH, p, L))) {L : xL} (k92 : Int32 → Int32 → Int32 → Int32 → Int32 → Int32 → xV → Option (xV)) (res : xV) (hk92 : ∀ (v1 : Int32) (v3 : Int32) (v4 : Int32) (v5 : Int32) (v6 : Int32) (v7 : Int32) (V : xV), k92 v1 v3 v4 v5 v6 v7 V = some res → X M_Planner_follow (xRm (e + 1) M_Planner_follow) (xZ M_Planner_follow (fun o h' => o = none ∧ h' = (SH, res, L))) SH V L 0 0 92 [(0, .ref 57), (1, .int v1), (3, .int v3), (4, .int v4), (5, .int v5), (6, .int v6), (7, .int v7)] []) (v1 : Int32) (v3 : Int32) (v4 : Int32) (v5 : Int32) (v6 : Int32) (v7 : Int32) (V : xV) (h : b_Planner_follow_92 r_Planner_follow k92 v1 v3 v4 v5 v6 v7 V = some res) : X M_Planner_follow (xRm (e + 1) M_Planner_follow) (xZ M_Planner_follow (fun o h' => o = none ∧ h' = (SH, res, L))) SH V L 0 0 92 [(0, .ref 57), (1, .int v1), (3, .int v3), (4, .int v4), (5, .int v5), (6, .int v6), (7, .int v7)] [] := by
  unfold b_Planner_follow_92 at h
  refine x_iload 6 d_Planner_follow_92 rfl ?_
  refine x_iconst 1 d_Planner_follow_94 (by decide) ?_
  refine x_icmp_gt 155 d_Planner_follow_95 (by decide) (fun c10 => ?_) (fun c10 => ?_)
  · replace h := xpos c10 h
    refine x_aload_n 0 d_Planner_follow_155 rfl rfl ?_
    refine x_getP (q := 59) f_Planner_15 sh_57 rfl d_Planner_follow_156 ?_
    refine x_iload 4 d_Planner_follow_159 rfl ?_
    refine x_iload 5 d_Planner_follow_161 rfl ?_
    obtain ⟨c11, h⟩ := xguard h
    refine x_iastore sh_59 c11 d_Planner_follow_163 ?_
    obtain rfl := Option.some.inj h
    exact x_return rfl d_Planner_follow_164 (Nat.le_refl _) (Nat.le_refl _) ⟨rfl, rfl⟩
  · replace h := xneg c10 h
    refine x_iload 5 d_Planner_follow_98 rfl ?_
    refine x_iconst (-1) d_Planner_follow_100 (by decide) ?_
    refine x_icmp_eq 111 d_Planner_follow_101 (by decide) (fun c12 => ?_) (fun c12 => ?_)
    · replace h := xpos c12 h
      exact tb_Planner_follow_111 e he r_Planner_follow hr_Planner_follow (L := L) k92 res hk92 v1 v3 v4 v5 v6 v7 V h
    · replace h := xneg c12 h
      refine x_iload 5 d_Planner_follow_104 rfl ?_
      refine x_iload 6 d_Planner_follow_106 rfl ?_
      refine x_icmp_ne 149 d_Planner_follow_108 (by decide) (fun c13 => ?_) (fun c13 => ?_)
      · replace h := xpos c13 h
        refine x_iinc 6 1 [(7, .int (v7 + 1)), (0, .ref 57), (1, .int v1), (3, .int v3), (4, .int v4), (5, .int v5), (6, .int v6)] d_Planner_follow_149 rfl (by decide) (Nat.le_of_ble_eq_true rfl) rfl ?_
        refine x_goto 92 d_Planner_follow_152 (by decide) ?_
        refine x_pick [1, 2, 3, 4, 5, 6, 0] rfl ?_
        exact hk92 v1 v3 v4 v5 v6 (v7 + 1) V h
      · replace h := xneg c13 h
        exact tb_Planner_follow_111 e he r_Planner_follow hr_Planner_follow (L := L) k92 res hk92 v1 v3 v4 v5 v6 v7 V h
def g_Planner_follow_92 (r_Planner_follow : Int32 → Int32 → Int32 → Int32 → xV → Option (xV)) : Nat → Int32 → Int32 → Int32 → Int32 → Int32 → Int32 → xV → Option (xV)
  | 0, _, _, _, _, _, _, _ => none
  | n + 1, v1, v3, v4, v5, v6, v7, V => b_Planner_follow_92 r_Planner_follow (g_Planner_follow_92 r_Planner_follow n) v1 v3 v4 v5 v6 v7 V
theorem tg_Planner_follow_92 (e : Nat) (he : 4 ≤ e) (r_Planner_follow : Int32 → Int32 → Int32 → Int32 → xV → Option (xV)) (hr_Planner_follow : ∀ (x0 x1 x2 x3 : Int32) (V : xV) (L : xL) (p : xV), r_Planner_follow x0 x1 x2 x3 V = some p → xRuns e M_Planner_follow [.ref 57, .int x0, .int x1, .int x2, .int x3] (SH, V, L) (fun o h' => o = none ∧ h' = (SH, p, L))) {L : xL} (res : xV)  : ∀ (n : Nat) (v1 : Int32) (v3 : Int32) (v4 : Int32) (v5 : Int32) (v6 : Int32) (v7 : Int32) (V : xV), g_Planner_follow_92 r_Planner_follow n v1 v3 v4 v5 v6 v7 V = some res → X M_Planner_follow (xRm (e + 1) M_Planner_follow) (xZ M_Planner_follow (fun o h' => o = none ∧ h' = (SH, res, L))) SH V L 0 0 92 [(0, .ref 57), (1, .int v1), (3, .int v3), (4, .int v4), (5, .int v5), (6, .int v6), (7, .int v7)] []
  | 0, _, _, _, _, _, _, _, h => by cases h
  | n + 1, v1, v3, v4, v5, v6, v7, V, h => tb_Planner_follow_92 e he r_Planner_follow hr_Planner_follow (L := L) (g_Planner_follow_92 r_Planner_follow n) res (tg_Planner_follow_92 e he r_Planner_follow hr_Planner_follow (L := L) res n) v1 v3 v4 v5 v6 v7 V h
def b_Planner_follow_29 (r_Planner_follow : Int32 → Int32 → Int32 → Int32 → xV → Option (xV)) (v3 : Int32) (v4 : Int32) (V : xV) : Option (xV) := some (x2 (x2 (x2 V 57 8 1) 57 0 v3) 57 1 v4)
theorem tb_Planner_follow_29 (e : Nat) (he : 4 ≤ e) (r_Planner_follow : Int32 → Int32 → Int32 → Int32 → xV → Option (xV)) (hr_Planner_follow : ∀ (x0 x1 x2 x3 : Int32) (V : xV) (L : xL) (p : xV), r_Planner_follow x0 x1 x2 x3 V = some p → xRuns e M_Planner_follow [.ref 57, .int x0, .int x1, .int x2, .int x3] (SH, V, L) (fun o h' => o = none ∧ h' = (SH, p, L))) {L : xL} (res : xV)  (v3 : Int32) (v4 : Int32) (V : xV) (h : b_Planner_follow_29 r_Planner_follow v3 v4 V = some res) : X M_Planner_follow (xRm (e + 1) M_Planner_follow) (xZ M_Planner_follow (fun o h' => o = none ∧ h' = (SH, res, L))) SH V L 0 0 29 [(0, .ref 57), (3, .int v3), (4, .int v4)] [] := by
  unfold b_Planner_follow_29 at h
  refine x_aload_n 0 d_Planner_follow_29 rfl rfl ?_
  refine x_iconst 1 d_Planner_follow_30 (by decide) ?_
  refine x_putI f_Planner_51 sh_57 rfl rfl rfl d_Planner_follow_31 ?_
  refine x_aload_n 0 d_Planner_follow_34 rfl rfl ?_
  refine x_iload_n 1 d_Planner_follow_35 rfl rfl ?_
  refine x_putI f_Planner_55 sh_57 rfl rfl rfl d_Planner_follow_36 ?_
  refine x_aload_n 0 d_Planner_follow_39 rfl rfl ?_
  refine x_iload 2 d_Planner_follow_40 rfl ?_
  refine x_putI f_Planner_58 sh_57 rfl rfl rfl d_Planner_follow_42 ?_
  obtain rfl := Option.some.inj h
  exact x_return rfl d_Planner_follow_45 (Nat.le_refl _) (Nat.le_refl _) ⟨rfl, rfl⟩
def b_Planner_follow_14 (r_Planner_follow : Int32 → Int32 → Int32 → Int32 → xV → Option (xV)) (v3 : Int32) (v4 : Int32) (V : xV) : Option (xV) := (if (V 57 8) = 0 then b_Planner_follow_29 r_Planner_follow v3 v4 V else (if v3 ≤ (V 57 0) then some V else b_Planner_follow_29 r_Planner_follow v3 v4 V))
theorem tb_Planner_follow_14 (e : Nat) (he : 4 ≤ e) (r_Planner_follow : Int32 → Int32 → Int32 → Int32 → xV → Option (xV)) (hr_Planner_follow : ∀ (x0 x1 x2 x3 : Int32) (V : xV) (L : xL) (p : xV), r_Planner_follow x0 x1 x2 x3 V = some p → xRuns e M_Planner_follow [.ref 57, .int x0, .int x1, .int x2, .int x3] (SH, V, L) (fun o h' => o = none ∧ h' = (SH, p, L))) {L : xL} (res : xV)  (v3 : Int32) (v4 : Int32) (V : xV) (h : b_Planner_follow_14 r_Planner_follow v3 v4 V = some res) : X M_Planner_follow (xRm (e + 1) M_Planner_follow) (xZ M_Planner_follow (fun o h' => o = none ∧ h' = (SH, res, L))) SH V L 0 0 14 [(0, .ref 57), (3, .int v3), (4, .int v4)] [] := by
  unfold b_Planner_follow_14 at h
  refine x_aload_n 0 d_Planner_follow_14 rfl rfl ?_
  refine x_getI f_Planner_51 sh_57 rfl d_Planner_follow_15 ?_
  refine x_if_eq 29 d_Planner_follow_18 (by decide) (fun c8 => ?_) (fun c8 => ?_)
  · replace h := xpos c8 h
    exact tb_Planner_follow_29 e he r_Planner_follow hr_Planner_follow (L := L) res v3 v4 V h
  · replace h := xneg c8 h
    refine x_iload_n 1 d_Planner_follow_21 rfl rfl ?_
    refine x_aload_n 0 d_Planner_follow_22 rfl rfl ?_
    refine x_getI f_Planner_55 sh_57 rfl d_Planner_follow_23 ?_
    refine x_icmp_le 45 d_Planner_follow_26 (by decide) (fun c9 => ?_) (fun c9 => ?_)
    · replace h := xpos c9 h
      obtain rfl := Option.some.inj h
      exact x_return rfl d_Planner_follow_45 (Nat.le_refl _) (Nat.le_refl _) ⟨rfl, rfl⟩
    · replace h := xneg c9 h
      exact tb_Planner_follow_29 e he r_Planner_follow hr_Planner_follow (L := L) res v3 v4 V h
def F_Planner_follow (r_Planner_follow : Int32 → Int32 → Int32 → Int32 → xV → Option (xV)) (a1 : Int32) (a2 : Int32) (a3 : Int32) (a4 : Int32) (V : xV) : Option (xV) := (if (V 57 7) ≤ a1 then b_Planner_follow_14 r_Planner_follow a3 a4 V else (if a1 < 10 then (Option.bind (f_Rolls_seenOn ((V 57 6) + a1) V) fun p3 => (if ¬ (f_Ww_within ((a2 * 10) + p3) 20) = 0 then (if xI ((a2 * 10) + p3) 20 = true then g_Planner_follow_92 r_Planner_follow 2000 a1 a3 a4 ((a2 * 10) + p3) (V 59 ((a2 * 10) + p3).toNatClampNeg) 0 V else none) else some V)) else b_Planner_follow_14 r_Planner_follow a3 a4 V))
theorem T_Planner_follow (e : Nat) (he : 4 ≤ e) (r_Planner_follow : Int32 → Int32 → Int32 → Int32 → xV → Option (xV)) (hr_Planner_follow : ∀ (x0 x1 x2 x3 : Int32) (V : xV) (L : xL) (p : xV), r_Planner_follow x0 x1 x2 x3 V = some p → xRuns e M_Planner_follow [.ref 57, .int x0, .int x1, .int x2, .int x3] (SH, V, L) (fun o h' => o = none ∧ h' = (SH, p, L))) (a1 : Int32) (a2 : Int32) (a3 : Int32) (a4 : Int32) (V : xV) (L : xL) (res : xV) (h : F_Planner_follow r_Planner_follow a1 a2 a3 a4 V = some res) : xRuns (e + 1) M_Planner_follow [.ref 57, .int a1, .int a2, .int a3, .int a4] (SH, V, L) (fun o h' => o = none ∧ h' = (SH, res, L)) := by
  refine xRuns_of (by decide) (Nat.le_of_ble_eq_true rfl) ?_
  unfold F_Planner_follow at h
  show X M_Planner_follow (xRm (e + 1) M_Planner_follow) (xZ M_Planner_follow (fun o h' => o = none ∧ h' = (SH, res, L))) SH V L 0 0 0 [(0, .ref 57), (1, .int a1), (2, .int a2), (3, .int a3), (4, .int a4)] []
  refine x_iload_n 1 d_Planner_follow_0 rfl rfl ?_
  refine x_aload_n 0 d_Planner_follow_1 rfl rfl ?_
  refine x_getI f_Planner_36 sh_57 rfl d_Planner_follow_2 ?_
  refine x_icmp_ge 14 d_Planner_follow_5 (by decide) (fun c1 => ?_) (fun c1 => ?_)
  · replace h := xpos c1 h
    refine x_pick [0, 3, 4] rfl ?_
    exact tb_Planner_follow_14 e he r_Planner_follow hr_Planner_follow (L := L) res a3 a4 V h
  · replace h := xneg c1 h
    refine x_iload_n 1 d_Planner_follow_8 rfl rfl ?_
    refine x_bipush 10 d_Planner_follow_9 (by decide) ?_
    refine x_icmp_lt 46 d_Planner_follow_11 (by decide) (fun c2 => ?_) (fun c2 => ?_)
    · replace h := xpos c2 h
      refine x_iload_n 2 d_Planner_follow_46 rfl rfl ?_
      refine x_bipush 10 d_Planner_follow_47 (by decide) ?_
      refine x_imul d_Planner_follow_49 ?_
      refine x_aload_n 0 d_Planner_follow_50 rfl rfl ?_
      refine x_getP (q := 1) f_Planner_18 sh_57 rfl d_Planner_follow_51 ?_
      refine x_aload_n 0 d_Planner_follow_54 rfl rfl ?_
      refine x_getI f_Planner_26 sh_57 rfl d_Planner_follow_55 ?_
      refine x_iload_n 1 d_Planner_follow_58 rfl rfl ?_
      refine x_iadd d_Planner_follow_59 ?_
      obtain ⟨p3, e4, h⟩ := xbind h
      refine x_callV0 e_Planner_70 sh_1 rfl (t_Rolls_seenOn ((V 57 6) + a1) V L _ e4) rfl rfl rfl (Nat.le_of_ble_eq_true rfl) (xfit_of (by omega) (Nat.le_of_ble_eq_true rfl)) (Nat.zero_le _) (Nat.zero_le _) d_Planner_follow_60 ?_
      refine x_iadd d_Planner_follow_63 ?_
      refine x_istore [(5, .int ((a2 * 10) + p3)), (0, .ref 57), (1, .int a1), (2, .int a2), (3, .int a3), (4, .int a4)] d_Planner_follow_64 (Nat.le_of_ble_eq_true rfl) rfl ?_
      refine x_iload 0 d_Planner_follow_66 rfl ?_
      refine x_aload_n 1 d_Planner_follow_68 rfl rfl ?_
      refine x_getP (q := 59) f_Planner_15 sh_57 rfl d_Planner_follow_69 ?_
      refine x_alen 20 sh_59 (by decide) (by decide) d_Planner_follow_72 ?_
      refine x_callSN0 e_Planner_74 (t_Ww_within ((a2 * 10) + p3) 20 V L _ rfl) rfl rfl rfl (Nat.le_of_ble_eq_true rfl) (xfit_of (by omega) (Nat.le_of_ble_eq_true rfl)) (Nat.zero_le _) (Nat.zero_le _) d_Planner_follow_73 ?_
      refine x_if_ne 80 d_Planner_follow_76 (by decide) (fun c6 => ?_) (fun c6 => ?_)
      · replace h := xpos c6 h
        refine x_aload_n 1 d_Planner_follow_80 rfl rfl ?_
        refine x_getP (q := 59) f_Planner_15 sh_57 rfl d_Planner_follow_81 ?_
        refine x_iload 0 d_Planner_follow_84 rfl ?_
        obtain ⟨c7, h⟩ := xguard h
        refine x_iaload sh_59 c7 d_Planner_follow_86 ?_
        refine x_istore [(6, .int (V 59 ((a2 * 10) + p3).toNatClampNeg)), (5, .int ((a2 * 10) + p3)), (0, .ref 57), (1, .int a1), (2, .int a2), (3, .int a3), (4, .int a4)] d_Planner_follow_87 (Nat.le_of_ble_eq_true rfl) rfl ?_
        refine x_iconst 0 d_Planner_follow_89 (by decide) ?_
        refine x_istore [(7, .int 0), (6, .int (V 59 ((a2 * 10) + p3).toNatClampNeg)), (5, .int ((a2 * 10) + p3)), (0, .ref 57), (1, .int a1), (2, .int a2), (3, .int a3), (4, .int a4)] d_Planner_follow_90 (Nat.le_of_ble_eq_true rfl) rfl ?_
        refine x_pick [3, 4, 6, 7, 2, 1, 0] rfl ?_
        exact tg_Planner_follow_92 e he r_Planner_follow hr_Planner_follow (L := L) res _ a1 a3 a4 ((a2 * 10) + p3) (V 59 ((a2 * 10) + p3).toNatClampNeg) 0 V h
      · replace h := xneg c6 h
        obtain rfl := Option.some.inj h
        exact x_return rfl d_Planner_follow_79 (Nat.le_refl _) (Nat.le_refl _) ⟨rfl, rfl⟩
    · replace h := xneg c2 h
      refine x_pick [0, 3, 4] rfl ?_
      exact tb_Planner_follow_14 e he r_Planner_follow hr_Planner_follow (L := L) res a3 a4 V h
def f_Planner_follow : Nat → Int32 → Int32 → Int32 → Int32 → xV → Option xV
  | 0, _, _, _, _, _ => none
  | n + 1, a, b, c, d, V => F_Planner_follow (f_Planner_follow n) a b c d V
theorem t_Planner_follow : ∀ (n : Nat) (a1 a2 a3 a4 : Int32) (V : xV) (L : xL) (res : xV), f_Planner_follow n a1 a2 a3 a4 V = some res → xRuns (n + 4) M_Planner_follow [.ref 57, .int a1, .int a2, .int a3, .int a4] (SH, V, L) (fun o h' => o = none ∧ h' = (SH, res, L))
  | 0, _, _, _, _, _, _, _, h => by cases h
  | n + 1, a1, a2, a3, a4, V, L, res, h => T_Planner_follow (n + 4) (by omega) _ (t_Planner_follow n) a1 a2 a3 a4 V L res h
-- Court_provinceGain
def b_Court_provinceGain_13 (k13 : Int32 → Int32 → xV → Option (Int32 × xV)) (v4 : Int32) (v5 : Int32) (V : xV) : Option (Int32 × xV) := (if (V 1 7) ≤ v5 then some (v4, V) else (Option.bind (f_Rolls_homeOf v5 V) fun p4 => (if ¬ p4 = (V 51 7) then k13 v4 (v5 + 1) V else (Option.bind (f_Court_gainOf v5 0 V) fun p7 => k13 (v4 + p7.1) (v5 + 1) p7.2))))
theorem tb_Court_provinceGain_13 {L : xL} (k13 : Int32 → Int32 → xV → Option (Int32 × xV)) (res : Int32 × xV) (hk13 : ∀ (v4 : Int32) (v5 : Int32) (V : xV), k13 v4 v5 V = some res → X M_Court_provinceGain (xRm (6) M_Court_provinceGain) (xZ M_Court_provinceGain (fun o h' => o = some (.int res.1) ∧ h' = (SH, res.2, L))) SH V L 0 0 13 [(0, .ref 51), (4, .int v4), (5, .int v5)] []) (v4 : Int32) (v5 : Int32) (V : xV) (h : b_Court_provinceGain_13 k13 v4 v5 V = some res) : X M_Court_provinceGain (xRm (6) M_Court_provinceGain) (xZ M_Court_provinceGain (fun o h' => o = some (.int res.1) ∧ h' = (SH, res.2, L))) SH V L 0 0 13 [(0, .ref 51), (4, .int v4), (5, .int v5)] [] := by
  unfold b_Court_provinceGain_13 at h
  refine x_iload 2 d_Court_provinceGain_13 rfl ?_
  refine x_aload_n 0 d_Court_provinceGain_15 rfl rfl ?_
  refine x_getP (q := 1) f_Court_29 sh_51 rfl d_Court_provinceGain_16 ?_
  refine x_getI f_Court_67 sh_1 rfl d_Court_provinceGain_19 ?_
  refine x_icmp_ge 59 d_Court_provinceGain_22 (by decide) (fun c3 => ?_) (fun c3 => ?_)
  · replace h := xpos c3 h
    refine x_iload 1 d_Court_provinceGain_59 rfl ?_
    obtain rfl := Option.some.inj h
    exact x_ireturn rfl d_Court_provinceGain_61 (Nat.le_refl _) (Nat.le_refl _) ⟨rfl, rfl⟩
  · replace h := xneg c3 h
    refine x_aload_n 0 d_Court_provinceGain_25 rfl rfl ?_
    refine x_getP (q := 1) f_Court_29 sh_51 rfl d_Court_provinceGain_26 ?_
    refine x_iload 2 d_Court_provinceGain_29 rfl ?_
    obtain ⟨p4, e5, h⟩ := xbind h
    refine x_callV0 e_Court_91 sh_1 rfl (t_Rolls_homeOf v5 V L _ e5) rfl rfl rfl (Nat.le_of_ble_eq_true rfl) (xfit_of (by omega) (Nat.le_of_ble_eq_true rfl)) (Nat.zero_le _) (Nat.zero_le _) d_Court_provinceGain_31 ?_
    refine x_aload_n 0 d_Court_provinceGain_34 rfl rfl ?_
    refine x_getI f_Court_51 sh_51 rfl d_Court_provinceGain_35 ?_
    refine x_icmp_ne 53 d_Court_provinceGain_38 (by decide) (fun c6 => ?_) (fun c6 => ?_)
    · replace h := xpos c6 h
      refine x_iinc 2 1 [(5, .int (v5 + 1)), (0, .ref 51), (4, .int v4)] d_Court_provinceGain_53 rfl (by decide) (Nat.le_of_ble_eq_true rfl) rfl ?_
      refine x_goto 13 d_Court_provinceGain_56 (by decide) ?_
      refine x_pick [1, 2, 0] rfl ?_
      exact hk13 v4 (v5 + 1) V h
    · replace h := xneg c6 h
      refine x_iload 1 d_Court_provinceGain_41 rfl ?_
      refine x_aload_n 0 d_Court_provinceGain_43 rfl rfl ?_
      refine x_iload 2 d_Court_provinceGain_44 rfl ?_
      refine x_iconst 0 d_Court_provinceGain_46 (by decide) ?_
      obtain ⟨p7, e8, h⟩ := xbind h
      refine x_callV0 e_Court_94 sh_51 rfl (t_Court_gainOf v5 0 V L _ e8) rfl rfl rfl (Nat.le_of_ble_eq_true rfl) (xfit_of (by omega) (Nat.le_of_ble_eq_true rfl)) (Nat.zero_le _) (Nat.zero_le _) d_Court_provinceGain_47 ?_
      refine x_iadd d_Court_provinceGain_50 ?_
      refine x_istore [(4, .int (v4 + p7.1)), (0, .ref 51), (5, .int v5)] d_Court_provinceGain_51 (Nat.le_of_ble_eq_true rfl) rfl ?_
      refine x_iinc 2 1 [(5, .int (v5 + 1)), (4, .int (v4 + p7.1)), (0, .ref 51)] d_Court_provinceGain_53 rfl (by decide) (Nat.le_of_ble_eq_true rfl) rfl ?_
      refine x_goto 13 d_Court_provinceGain_56 (by decide) ?_
      refine x_pick [2, 1, 0] rfl ?_
      exact hk13 (v4 + p7.1) (v5 + 1) p7.2 h
def g_Court_provinceGain_13  : Nat → Int32 → Int32 → xV → Option (Int32 × xV)
  | 0, _, _, _ => none
  | n + 1, v4, v5, V => b_Court_provinceGain_13 (g_Court_provinceGain_13  n) v4 v5 V
theorem tg_Court_provinceGain_13 {L : xL} (res : Int32 × xV)  : ∀ (n : Nat) (v4 : Int32) (v5 : Int32) (V : xV), g_Court_provinceGain_13  n v4 v5 V = some res → X M_Court_provinceGain (xRm (6) M_Court_provinceGain) (xZ M_Court_provinceGain (fun o h' => o = some (.int res.1) ∧ h' = (SH, res.2, L))) SH V L 0 0 13 [(0, .ref 51), (4, .int v4), (5, .int v5)] []
  | 0, _, _, _, h => by cases h
  | n + 1, v4, v5, V, h => tb_Court_provinceGain_13 (L := L) (g_Court_provinceGain_13  n) res (tg_Court_provinceGain_13 (L := L) res n) v4 v5 V h
def f_Court_provinceGain (a1 : Int32) (a2 : Int32) (a3 : Int32) (V : xV) : Option (Int32 × xV) := (Option.bind (f_Court_sit a1 a2 a3 V) fun p1 => g_Court_provinceGain_13 2000 0 0 p1)
theorem t_Court_provinceGain (a1 : Int32) (a2 : Int32) (a3 : Int32) (V : xV) (L : xL) (res : Int32 × xV) (h : f_Court_provinceGain a1 a2 a3 V = some res) : xRuns (6) M_Court_provinceGain [.ref 51, .int a1, .int a2, .int a3] (SH, V, L) (fun o h' => o = some (.int res.1) ∧ h' = (SH, res.2, L)) := by
  refine xRuns_of (by decide) (Nat.le_of_ble_eq_true rfl) ?_
  unfold f_Court_provinceGain at h
  show X M_Court_provinceGain (xRm (6) M_Court_provinceGain) (xZ M_Court_provinceGain (fun o h' => o = some (.int res.1) ∧ h' = (SH, res.2, L))) SH V L 0 0 0 [(0, .ref 51), (1, .int a1), (2, .int a2), (3, .int a3)] []
  refine x_aload_n 0 d_Court_provinceGain_0 rfl rfl ?_
  refine x_iload_n 1 d_Court_provinceGain_1 rfl rfl ?_
  refine x_iload_n 2 d_Court_provinceGain_2 rfl rfl ?_
  refine x_iload_n 3 d_Court_provinceGain_3 rfl rfl ?_
  obtain ⟨p1, e2, h⟩ := xbind h
  refine x_callV0v e_Court_43 sh_51 rfl (t_Court_sit a1 a2 a3 V L _ e2) rfl rfl rfl (Nat.le_of_ble_eq_true rfl) (xfit_of (by omega) (Nat.le_of_ble_eq_true rfl)) (Nat.zero_le _) (Nat.zero_le _) d_Court_provinceGain_4 ?_
  refine x_iconst 0 d_Court_provinceGain_7 (by decide) ?_
  refine x_istore [(4, .int 0), (0, .ref 51), (1, .int a1), (2, .int a2), (3, .int a3)] d_Court_provinceGain_8 (Nat.le_of_ble_eq_true rfl) rfl ?_
  refine x_iconst 0 d_Court_provinceGain_10 (by decide) ?_
  refine x_istore [(5, .int 0), (4, .int 0), (0, .ref 51), (1, .int a1), (2, .int a2), (3, .int a3)] d_Court_provinceGain_11 (Nat.le_of_ble_eq_true rfl) rfl ?_
  refine x_pick [2, 1, 0] rfl ?_
  exact tg_Court_provinceGain_13 (L := L) res _ 0 0 p1 h
