theorem d_Planner_draw_0 : decode M_Planner_draw.2.1 0 = .ok (.aload_n 0, 1) := by decide +kernel
theorem d_Planner_draw_1 : decode M_Planner_draw.2.1 1 = .ok (.iload_n 2, 1) := by decide +kernel
theorem d_Planner_draw_2 : decode M_Planner_draw.2.1 2 = .ok (.putfield 26, 3) := by decide +kernel
theorem d_Planner_draw_5 : decode M_Planner_draw.2.1 5 = .ok (.aload_n 0, 1) := by decide +kernel
theorem d_Planner_draw_6 : decode M_Planner_draw.2.1 6 = .ok (.iload_n 3, 1) := by decide +kernel
theorem d_Planner_draw_7 : decode M_Planner_draw.2.1 7 = .ok (.bipush 10, 2) := by decide +kernel
theorem d_Planner_draw_9 : decode M_Planner_draw.2.1 9 = .ok (.invokestatic 30, 3) := by decide +kernel
theorem d_Planner_draw_12 : decode M_Planner_draw.2.1 12 = .ok (.putfield 36, 3) := by decide +kernel
theorem d_Planner_draw_15 : decode M_Planner_draw.2.1 15 = .ok (.iconst 0, 1) := by decide +kernel
theorem d_Planner_draw_16 : decode M_Planner_draw.2.1 16 = .ok (.istore 4, 2) := by decide +kernel
theorem d_Planner_draw_18 : decode M_Planner_draw.2.1 18 = .ok (.iload 4, 2) := by decide +kernel
theorem d_Planner_draw_20 : decode M_Planner_draw.2.1 20 = .ok (.aload_n 0, 1) := by decide +kernel
theorem d_Planner_draw_21 : decode M_Planner_draw.2.1 21 = .ok (.getfield 36, 3) := by decide +kernel
theorem d_Planner_draw_24 : decode M_Planner_draw.2.1 24 = .ok (.if_icmp .ge 55, 3) := by decide +kernel
theorem d_Planner_draw_27 : decode M_Planner_draw.2.1 27 = .ok (.aload_n 0, 1) := by decide +kernel
theorem d_Planner_draw_28 : decode M_Planner_draw.2.1 28 = .ok (.getfield 9, 3) := by decide +kernel
theorem d_Planner_draw_31 : decode M_Planner_draw.2.1 31 = .ok (.iconst 2, 1) := by decide +kernel
theorem d_Planner_draw_32 : decode M_Planner_draw.2.1 32 = .ok (.iload 4, 2) := by decide +kernel
theorem d_Planner_draw_34 : decode M_Planner_draw.2.1 34 = .ok (.imul, 1) := by decide +kernel
theorem d_Planner_draw_35 : decode M_Planner_draw.2.1 35 = .ok (.aload_n 0, 1) := by decide +kernel
theorem d_Planner_draw_36 : decode M_Planner_draw.2.1 36 = .ok (.getfield 22, 3) := by decide +kernel
theorem d_Planner_draw_39 : decode M_Planner_draw.2.1 39 = .ok (.iload_n 2, 1) := by decide +kernel
theorem d_Planner_draw_40 : decode M_Planner_draw.2.1 40 = .ok (.iload 4, 2) := by decide +kernel
theorem d_Planner_draw_42 : decode M_Planner_draw.2.1 42 = .ok (.iadd, 1) := by decide +kernel
theorem d_Planner_draw_43 : decode M_Planner_draw.2.1 43 = .ok (.iload_n 1, 1) := by decide +kernel
theorem d_Planner_draw_44 : decode M_Planner_draw.2.1 44 = .ok (.iconst 0, 1) := by decide +kernel
theorem d_Planner_draw_45 : decode M_Planner_draw.2.1 45 = .ok (.invokevirtual 39, 3) := by decide +kernel
theorem d_Planner_draw_48 : decode M_Planner_draw.2.1 48 = .ok (.iastore, 1) := by decide +kernel
theorem d_Planner_draw_49 : decode M_Planner_draw.2.1 49 = .ok (.aload_n 0, 1) := by decide +kernel
theorem d_Planner_draw_50 : decode M_Planner_draw.2.1 50 = .ok (.getfield 9, 3) := by decide +kernel
theorem d_Planner_draw_53 : decode M_Planner_draw.2.1 53 = .ok (.iconst 2, 1) := by decide +kernel
theorem d_Planner_draw_54 : decode M_Planner_draw.2.1 54 = .ok (.iload 4, 2) := by decide +kernel
theorem d_Planner_draw_56 : decode M_Planner_draw.2.1 56 = .ok (.imul, 1) := by decide +kernel
theorem d_Planner_draw_57 : decode M_Planner_draw.2.1 57 = .ok (.iconst 1, 1) := by decide +kernel
theorem d_Planner_draw_58 : decode M_Planner_draw.2.1 58 = .ok (.iadd, 1) := by decide +kernel
theorem d_Planner_draw_59 : decode M_Planner_draw.2.1 59 = .ok (.aload_n 0, 1) := by decide +kernel
theorem d_Planner_draw_60 : decode M_Planner_draw.2.1 60 = .ok (.getfield 22, 3) := by decide +kernel
theorem d_Planner_draw_63 : decode M_Planner_draw.2.1 63 = .ok (.iload_n 2, 1) := by decide +kernel
theorem d_Planner_draw_64 : decode M_Planner_draw.2.1 64 = .ok (.iload 4, 2) := by decide +kernel
theorem d_Planner_draw_66 : decode M_Planner_draw.2.1 66 = .ok (.iadd, 1) := by decide +kernel
theorem d_Planner_draw_67 : decode M_Planner_draw.2.1 67 = .ok (.iload_n 1, 1) := by decide +kernel
theorem d_Planner_draw_68 : decode M_Planner_draw.2.1 68 = .ok (.iconst 1, 1) := by decide +kernel
theorem d_Planner_draw_69 : decode M_Planner_draw.2.1 69 = .ok (.invokevirtual 39, 3) := by decide +kernel
theorem d_Planner_draw_72 : decode M_Planner_draw.2.1 72 = .ok (.iastore, 1) := by decide +kernel
theorem d_Planner_draw_73 : decode M_Planner_draw.2.1 73 = .ok (.iinc 4 1, 3) := by decide +kernel
theorem d_Planner_draw_76 : decode M_Planner_draw.2.1 76 = .ok (.goto (-58), 3) := by decide +kernel
theorem d_Planner_draw_79 : decode M_Planner_draw.2.1 79 = .ok (.aload_n 0, 1) := by decide +kernel
theorem d_Planner_draw_80 : decode M_Planner_draw.2.1 80 = .ok (.getfield 15, 3) := by decide +kernel
theorem d_Planner_draw_83 : decode M_Planner_draw.2.1 83 = .ok (.iconst (-1), 1) := by decide +kernel
theorem d_Planner_draw_84 : decode M_Planner_draw.2.1 84 = .ok (.invokestatic 45, 3) := by decide +kernel
theorem d_Planner_draw_87 : decode M_Planner_draw.2.1 87 = .ok (.aload_n 0, 1) := by decide +kernel
theorem d_Planner_draw_88 : decode M_Planner_draw.2.1 88 = .ok (.iconst 0, 1) := by decide +kernel
theorem d_Planner_draw_89 : decode M_Planner_draw.2.1 89 = .ok (.putfield 51, 3) := by decide +kernel
theorem d_Planner_draw_92 : decode M_Planner_draw.2.1 92 = .ok (.aload_n 0, 1) := by decide +kernel
theorem d_Planner_draw_93 : decode M_Planner_draw.2.1 93 = .ok (.iconst 0, 1) := by decide +kernel
theorem d_Planner_draw_94 : decode M_Planner_draw.2.1 94 = .ok (.putfield 55, 3) := by decide +kernel
theorem d_Planner_draw_97 : decode M_Planner_draw.2.1 97 = .ok (.aload_n 0, 1) := by decide +kernel
theorem d_Planner_draw_98 : decode M_Planner_draw.2.1 98 = .ok (.iconst 0, 1) := by decide +kernel
theorem d_Planner_draw_99 : decode M_Planner_draw.2.1 99 = .ok (.putfield 58, 3) := by decide +kernel
theorem d_Planner_draw_102 : decode M_Planner_draw.2.1 102 = .ok (.aload_n 0, 1) := by decide +kernel
theorem d_Planner_draw_103 : decode M_Planner_draw.2.1 103 = .ok (.iconst 0, 1) := by decide +kernel
theorem d_Planner_draw_104 : decode M_Planner_draw.2.1 104 = .ok (.aload_n 0, 1) := by decide +kernel
theorem d_Planner_draw_105 : decode M_Planner_draw.2.1 105 = .ok (.getfield 18, 3) := by decide +kernel
theorem d_Planner_draw_108 : decode M_Planner_draw.2.1 108 = .ok (.iload_n 2, 1) := by decide +kernel
theorem d_Planner_draw_109 : decode M_Planner_draw.2.1 109 = .ok (.iload_n 1, 1) := by decide +kernel
theorem d_Planner_draw_110 : decode M_Planner_draw.2.1 110 = .ok (.invokevirtual 61, 3) := by decide +kernel
theorem d_Planner_draw_113 : decode M_Planner_draw.2.1 113 = .ok (.iconst 0, 1) := by decide +kernel
theorem d_Planner_draw_114 : decode M_Planner_draw.2.1 114 = .ok (.iconst 0, 1) := by decide +kernel
theorem d_Planner_draw_115 : decode M_Planner_draw.2.1 115 = .ok (.invokevirtual 66, 3) := by decide +kernel
theorem d_Planner_draw_118 : decode M_Planner_draw.2.1 118 = .ok (.return_, 1) := by decide +kernel
theorem d_Ww_plan_0 : decode M_Ww_plan.2.1 0 = .ok (.iload_n 1, 1) := by decide +kernel
theorem d_Ww_plan_1 : decode M_Ww_plan.2.1 1 = .ok (.iconst 4, 1) := by decide +kernel
theorem d_Ww_plan_2 : decode M_Ww_plan.2.1 2 = .ok (.invokestatic 80, 3) := by decide +kernel
theorem d_Ww_plan_5 : decode M_Ww_plan.2.1 5 = .ok (.ifCond .eq 31, 3) := by decide +kernel
theorem d_Ww_plan_8 : decode M_Ww_plan.2.1 8 = .ok (.iload_n 2, 1) := by decide +kernel
theorem d_Ww_plan_9 : decode M_Ww_plan.2.1 9 = .ok (.bipush 30, 2) := by decide +kernel
theorem d_Ww_plan_11 : decode M_Ww_plan.2.1 11 = .ok (.invokestatic 80, 3) := by decide +kernel
theorem d_Ww_plan_14 : decode M_Ww_plan.2.1 14 = .ok (.ifCond .eq 22, 3) := by decide +kernel
theorem d_Ww_plan_17 : decode M_Ww_plan.2.1 17 = .ok (.iload_n 3, 1) := by decide +kernel
theorem d_Ww_plan_18 : decode M_Ww_plan.2.1 18 = .ok (.iconst 1, 1) := by decide +kernel
theorem d_Ww_plan_19 : decode M_Ww_plan.2.1 19 = .ok (.if_icmp .lt 17, 3) := by decide +kernel
theorem d_Ww_plan_22 : decode M_Ww_plan.2.1 22 = .ok (.iload_n 3, 1) := by decide +kernel
theorem d_Ww_plan_23 : decode M_Ww_plan.2.1 23 = .ok (.bipush 10, 2) := by decide +kernel
theorem d_Ww_plan_25 : decode M_Ww_plan.2.1 25 = .ok (.if_icmp .gt 11, 3) := by decide +kernel
theorem d_Ww_plan_28 : decode M_Ww_plan.2.1 28 = .ok (.iload_n 2, 1) := by decide +kernel
theorem d_Ww_plan_29 : decode M_Ww_plan.2.1 29 = .ok (.iload_n 3, 1) := by decide +kernel
theorem d_Ww_plan_30 : decode M_Ww_plan.2.1 30 = .ok (.iadd, 1) := by decide +kernel
theorem d_Ww_plan_31 : decode M_Ww_plan.2.1 31 = .ok (.bipush 30, 2) := by decide +kernel
theorem d_Ww_plan_33 : decode M_Ww_plan.2.1 33 = .ok (.if_icmp .le 6, 3) := by decide +kernel
theorem d_Ww_plan_36 : decode M_Ww_plan.2.1 36 = .ok (.ldc 189, 2) := by decide +kernel
theorem d_Ww_plan_38 : decode M_Ww_plan.2.1 38 = .ok (.ireturn, 1) := by decide +kernel
theorem d_Ww_plan_39 : decode M_Ww_plan.2.1 39 = .ok (.iload 4, 2) := by decide +kernel
theorem d_Ww_plan_41 : decode M_Ww_plan.2.1 41 = .ok (.iconst (-1), 1) := by decide +kernel
theorem d_Ww_plan_42 : decode M_Ww_plan.2.1 42 = .ok (.if_icmp .eq 15, 3) := by decide +kernel
theorem d_Ww_plan_45 : decode M_Ww_plan.2.1 45 = .ok (.iload 4, 2) := by decide +kernel
theorem d_Ww_plan_47 : decode M_Ww_plan.2.1 47 = .ok (.iload_n 3, 1) := by decide +kernel
theorem d_Ww_plan_48 : decode M_Ww_plan.2.1 48 = .ok (.invokestatic 80, 3) := by decide +kernel
theorem d_Ww_plan_51 : decode M_Ww_plan.2.1 51 = .ok (.ifCond .ne 6, 3) := by decide +kernel
theorem d_Ww_plan_54 : decode M_Ww_plan.2.1 54 = .ok (.ldc 189, 2) := by decide +kernel
theorem d_Ww_plan_56 : decode M_Ww_plan.2.1 56 = .ok (.ireturn, 1) := by decide +kernel
theorem d_Ww_plan_57 : decode M_Ww_plan.2.1 57 = .ok (.aload_n 0, 1) := by decide +kernel
theorem d_Ww_plan_58 : decode M_Ww_plan.2.1 58 = .ok (.getfield 62, 3) := by decide +kernel
theorem d_Ww_plan_61 : decode M_Ww_plan.2.1 61 = .ok (.iload_n 1, 1) := by decide +kernel
theorem d_Ww_plan_62 : decode M_Ww_plan.2.1 62 = .ok (.iload_n 2, 1) := by decide +kernel
theorem d_Ww_plan_63 : decode M_Ww_plan.2.1 63 = .ok (.iload_n 3, 1) := by decide +kernel
theorem d_Ww_plan_64 : decode M_Ww_plan.2.1 64 = .ok (.invokevirtual 211, 3) := by decide +kernel
theorem d_Ww_plan_67 : decode M_Ww_plan.2.1 67 = .ok (.iload 4, 2) := by decide +kernel
theorem d_Ww_plan_69 : decode M_Ww_plan.2.1 69 = .ok (.iconst (-1), 1) := by decide +kernel
theorem d_Ww_plan_70 : decode M_Ww_plan.2.1 70 = .ok (.if_icmp .ne 13, 3) := by decide +kernel
theorem d_Ww_plan_73 : decode M_Ww_plan.2.1 73 = .ok (.aload_n 0, 1) := by decide +kernel
theorem d_Ww_plan_74 : decode M_Ww_plan.2.1 74 = .ok (.getfield 62, 3) := by decide +kernel
theorem d_Ww_plan_77 : decode M_Ww_plan.2.1 77 = .ok (.getfield 215, 3) := by decide +kernel
theorem d_Ww_plan_80 : decode M_Ww_plan.2.1 80 = .ok (.goto 15, 3) := by decide +kernel
theorem d_Ww_plan_83 : decode M_Ww_plan.2.1 83 = .ok (.aload_n 0, 1) := by decide +kernel
theorem d_Ww_plan_84 : decode M_Ww_plan.2.1 84 = .ok (.getfield 62, 3) := by decide +kernel
theorem d_Ww_plan_87 : decode M_Ww_plan.2.1 87 = .ok (.getfield 218, 3) := by decide +kernel
theorem d_Ww_plan_90 : decode M_Ww_plan.2.1 90 = .ok (.iload 4, 2) := by decide +kernel
theorem d_Ww_plan_92 : decode M_Ww_plan.2.1 92 = .ok (.ishr, 1) := by decide +kernel
theorem d_Ww_plan_93 : decode M_Ww_plan.2.1 93 = .ok (.iconst 1, 1) := by decide +kernel
theorem d_Ww_plan_94 : decode M_Ww_plan.2.1 94 = .ok (.iand, 1) := by decide +kernel
theorem d_Ww_plan_95 : decode M_Ww_plan.2.1 95 = .ok (.ireturn, 1) := by decide +kernel
theorem d_Rolls_ruleKey_0 : decode M_Rolls_ruleKey.2.1 0 = .ok (.aload_n 0, 1) := by decide +kernel
theorem d_Rolls_ruleKey_1 : decode M_Rolls_ruleKey.2.1 1 = .ok (.iload_n 1, 1) := by decide +kernel
theorem d_Rolls_ruleKey_2 : decode M_Rolls_ruleKey.2.1 2 = .ok (.iload_n 2, 1) := by decide +kernel
theorem d_Rolls_ruleKey_3 : decode M_Rolls_ruleKey.2.1 3 = .ok (.invokevirtual 76, 3) := by decide +kernel
theorem d_Rolls_ruleKey_6 : decode M_Rolls_ruleKey.2.1 6 = .ok (.bipush 10, 2) := by decide +kernel
theorem d_Rolls_ruleKey_8 : decode M_Rolls_ruleKey.2.1 8 = .ok (.imul, 1) := by decide +kernel
theorem d_Rolls_ruleKey_9 : decode M_Rolls_ruleKey.2.1 9 = .ok (.aload_n 0, 1) := by decide +kernel
theorem d_Rolls_ruleKey_10 : decode M_Rolls_ruleKey.2.1 10 = .ok (.iload_n 1, 1) := by decide +kernel
theorem d_Rolls_ruleKey_11 : decode M_Rolls_ruleKey.2.1 11 = .ok (.invokevirtual 79, 3) := by decide +kernel
theorem d_Rolls_ruleKey_14 : decode M_Rolls_ruleKey.2.1 14 = .ok (.iadd, 1) := by decide +kernel
theorem d_Rolls_ruleKey_15 : decode M_Rolls_ruleKey.2.1 15 = .ok (.ireturn, 1) := by decide +kernel
theorem d_Ww_found_0 : decode M_Ww_found.2.1 0 = .ok (.iload_n 1, 1) := by decide +kernel
theorem d_Ww_found_1 : decode M_Ww_found.2.1 1 = .ok (.iconst 4, 1) := by decide +kernel
theorem d_Ww_found_2 : decode M_Ww_found.2.1 2 = .ok (.invokestatic 80, 3) := by decide +kernel
theorem d_Ww_found_5 : decode M_Ww_found.2.1 5 = .ok (.ifCond .eq 11, 3) := by decide +kernel
theorem d_Ww_found_8 : decode M_Ww_found.2.1 8 = .ok (.iload_n 2, 1) := by decide +kernel
theorem d_Ww_found_9 : decode M_Ww_found.2.1 9 = .ok (.iconst 2, 1) := by decide +kernel
theorem d_Ww_found_10 : decode M_Ww_found.2.1 10 = .ok (.invokestatic 80, 3) := by decide +kernel
theorem d_Ww_found_13 : decode M_Ww_found.2.1 13 = .ok (.ifCond .ne 5, 3) := by decide +kernel
theorem d_Ww_found_16 : decode M_Ww_found.2.1 16 = .ok (.iconst (-1), 1) := by decide +kernel
theorem d_Ww_found_17 : decode M_Ww_found.2.1 17 = .ok (.ireturn, 1) := by decide +kernel
theorem d_Ww_found_18 : decode M_Ww_found.2.1 18 = .ok (.iconst 1, 1) := by decide +kernel
theorem d_Ww_found_19 : decode M_Ww_found.2.1 19 = .ok (.istore_n 3, 1) := by decide +kernel
theorem d_Ww_found_20 : decode M_Ww_found.2.1 20 = .ok (.iload_n 3, 1) := by decide +kernel
theorem d_Ww_found_21 : decode M_Ww_found.2.1 21 = .ok (.bipush 30, 2) := by decide +kernel
theorem d_Ww_found_23 : decode M_Ww_found.2.1 23 = .ok (.if_icmp .ge 79, 3) := by decide +kernel
theorem d_Ww_found_26 : decode M_Ww_found.2.1 26 = .ok (.iconst 0, 1) := by decide +kernel
theorem d_Ww_found_27 : decode M_Ww_found.2.1 27 = .ok (.istore 4, 2) := by decide +kernel
theorem d_Ww_found_29 : decode M_Ww_found.2.1 29 = .ok (.iload 4, 2) := by decide +kernel
theorem d_Ww_found_31 : decode M_Ww_found.2.1 31 = .ok (.iload_n 3, 1) := by decide +kernel
theorem d_Ww_found_32 : decode M_Ww_found.2.1 32 = .ok (.if_icmp .ge 64, 3) := by decide +kernel
theorem d_Ww_found_35 : decode M_Ww_found.2.1 35 = .ok (.aload_n 0, 1) := by decide +kernel
theorem d_Ww_found_36 : decode M_Ww_found.2.1 36 = .ok (.getfield 10, 3) := by decide +kernel
theorem d_Ww_found_39 : decode M_Ww_found.2.1 39 = .ok (.iload_n 3, 1) := by decide +kernel
theorem d_Ww_found_40 : decode M_Ww_found.2.1 40 = .ok (.iload_n 1, 1) := by decide +kernel
theorem d_Ww_found_41 : decode M_Ww_found.2.1 41 = .ok (.invokevirtual 221, 3) := by decide +kernel
theorem d_Ww_found_44 : decode M_Ww_found.2.1 44 = .ok (.aload_n 0, 1) := by decide +kernel
theorem d_Ww_found_45 : decode M_Ww_found.2.1 45 = .ok (.getfield 10, 3) := by decide +kernel
theorem d_Ww_found_48 : decode M_Ww_found.2.1 48 = .ok (.iload 4, 2) := by decide +kernel
theorem d_Ww_found_50 : decode M_Ww_found.2.1 50 = .ok (.iload_n 1, 1) := by decide +kernel
theorem d_Ww_found_51 : decode M_Ww_found.2.1 51 = .ok (.invokevirtual 221, 3) := by decide +kernel
theorem d_Ww_found_54 : decode M_Ww_found.2.1 54 = .ok (.if_icmp .ne 36, 3) := by decide +kernel
theorem d_Ww_found_57 : decode M_Ww_found.2.1 57 = .ok (.aload_n 0, 1) := by decide +kernel
theorem d_Ww_found_58 : decode M_Ww_found.2.1 58 = .ok (.getfield 10, 3) := by decide +kernel
theorem d_Ww_found_61 : decode M_Ww_found.2.1 61 = .ok (.iload_n 3, 1) := by decide +kernel
theorem d_Ww_found_62 : decode M_Ww_found.2.1 62 = .ok (.iload_n 1, 1) := by decide +kernel
theorem d_Ww_found_63 : decode M_Ww_found.2.1 63 = .ok (.invokevirtual 160, 3) := by decide +kernel
theorem d_Ww_found_66 : decode M_Ww_found.2.1 66 = .ok (.aload_n 0, 1) := by decide +kernel
theorem d_Ww_found_67 : decode M_Ww_found.2.1 67 = .ok (.getfield 10, 3) := by decide +kernel
theorem d_Ww_found_70 : decode M_Ww_found.2.1 70 = .ok (.iload 4, 2) := by decide +kernel
theorem d_Ww_found_72 : decode M_Ww_found.2.1 72 = .ok (.iload_n 1, 1) := by decide +kernel
theorem d_Ww_found_73 : decode M_Ww_found.2.1 73 = .ok (.invokevirtual 160, 3) := by decide +kernel
theorem d_Ww_found_76 : decode M_Ww_found.2.1 76 = .ok (.if_icmp .eq 14, 3) := by decide +kernel
theorem d_Ww_found_79 : decode M_Ww_found.2.1 79 = .ok (.iload_n 2, 1) := by decide +kernel
theorem d_Ww_found_80 : decode M_Ww_found.2.1 80 = .ok (.ifCond .ne 7, 3) := by decide +kernel
theorem d_Ww_found_83 : decode M_Ww_found.2.1 83 = .ok (.iload_n 3, 1) := by decide +kernel
theorem d_Ww_found_84 : decode M_Ww_found.2.1 84 = .ok (.goto 5, 3) := by decide +kernel
theorem d_Ww_found_87 : decode M_Ww_found.2.1 87 = .ok (.iload 4, 2) := by decide +kernel
theorem d_Ww_found_89 : decode M_Ww_found.2.1 89 = .ok (.ireturn, 1) := by decide +kernel
theorem d_Ww_found_90 : decode M_Ww_found.2.1 90 = .ok (.iinc 4 1, 3) := by decide +kernel
theorem d_Ww_found_93 : decode M_Ww_found.2.1 93 = .ok (.goto (-64), 3) := by decide +kernel
theorem d_Ww_found_96 : decode M_Ww_found.2.1 96 = .ok (.iinc 3 1, 3) := by decide +kernel
theorem d_Ww_found_99 : decode M_Ww_found.2.1 99 = .ok (.goto (-79), 3) := by decide +kernel
theorem d_Ww_found_102 : decode M_Ww_found.2.1 102 = .ok (.iconst (-1), 1) := by decide +kernel
theorem d_Ww_found_103 : decode M_Ww_found.2.1 103 = .ok (.ireturn, 1) := by decide +kernel
theorem d_Court_tollFor_0 : decode M_Court_tollFor.2.1 0 = .ok (.aload_n 0, 1) := by decide +kernel
theorem d_Court_tollFor_1 : decode M_Court_tollFor.2.1 1 = .ok (.getfield 18, 3) := by decide +kernel
theorem d_Court_tollFor_4 : decode M_Court_tollFor.2.1 4 = .ok (.bipush 9, 2) := by decide +kernel
theorem d_Court_tollFor_6 : decode M_Court_tollFor.2.1 6 = .ok (.iload_n 1, 1) := by decide +kernel
theorem d_Court_tollFor_7 : decode M_Court_tollFor.2.1 7 = .ok (.invokevirtual 60, 3) := by decide +kernel
theorem d_Court_tollFor_10 : decode M_Court_tollFor.2.1 10 = .ok (.aload_n 0, 1) := by decide +kernel
theorem d_Court_tollFor_11 : decode M_Court_tollFor.2.1 11 = .ok (.getfield 18, 3) := by decide +kernel
theorem d_Court_tollFor_14 : decode M_Court_tollFor.2.1 14 = .ok (.bipush 10, 2) := by decide +kernel
theorem d_Court_tollFor_16 : decode M_Court_tollFor.2.1 16 = .ok (.iload_n 2, 1) := by decide +kernel
theorem d_Court_tollFor_17 : decode M_Court_tollFor.2.1 17 = .ok (.invokevirtual 60, 3) := by decide +kernel
theorem d_Court_tollFor_20 : decode M_Court_tollFor.2.1 20 = .ok (.aload_n 0, 1) := by decide +kernel
theorem d_Court_tollFor_21 : decode M_Court_tollFor.2.1 21 = .ok (.getfield 18, 3) := by decide +kernel
theorem d_Court_tollFor_24 : decode M_Court_tollFor.2.1 24 = .ok (.bipush 20, 2) := by decide +kernel
theorem d_Court_tollFor_26 : decode M_Court_tollFor.2.1 26 = .ok (.iload_n 3, 1) := by decide +kernel
theorem d_Court_tollFor_27 : decode M_Court_tollFor.2.1 27 = .ok (.invokevirtual 60, 3) := by decide +kernel
theorem d_Court_tollFor_30 : decode M_Court_tollFor.2.1 30 = .ok (.aload_n 0, 1) := by decide +kernel
theorem d_Court_tollFor_31 : decode M_Court_tollFor.2.1 31 = .ok (.getfield 18, 3) := by decide +kernel
theorem d_Court_tollFor_34 : decode M_Court_tollFor.2.1 34 = .ok (.bipush 21, 2) := by decide +kernel
theorem d_Court_tollFor_36 : decode M_Court_tollFor.2.1 36 = .ok (.iload 4, 2) := by decide +kernel
theorem d_Court_tollFor_38 : decode M_Court_tollFor.2.1 38 = .ok (.invokevirtual 60, 3) := by decide +kernel
theorem d_Court_tollFor_41 : decode M_Court_tollFor.2.1 41 = .ok (.aload_n 0, 1) := by decide +kernel
theorem d_Court_tollFor_42 : decode M_Court_tollFor.2.1 42 = .ok (.iconst 5, 1) := by decide +kernel
theorem d_Court_tollFor_43 : decode M_Court_tollFor.2.1 43 = .ok (.invokevirtual 77, 3) := by decide +kernel
theorem d_Court_tollFor_46 : decode M_Court_tollFor.2.1 46 = .ok (.sipush (-999), 3) := by decide +kernel
theorem d_Court_tollFor_49 : decode M_Court_tollFor.2.1 49 = .ok (.sipush 999, 3) := by decide +kernel
theorem d_Court_tollFor_52 : decode M_Court_tollFor.2.1 52 = .ok (.invokestatic 84, 3) := by decide +kernel
theorem d_Court_tollFor_55 : decode M_Court_tollFor.2.1 55 = .ok (.ireturn, 1) := by decide +kernel
theorem d_Council_weigh_0 : decode M_Council_weigh.2.1 0 = .ok (.iconst 0, 1) := by decide +kernel
theorem d_Council_weigh_1 : decode M_Council_weigh.2.1 1 = .ok (.istore_n 2, 1) := by decide +kernel
theorem d_Council_weigh_2 : decode M_Council_weigh.2.1 2 = .ok (.iload_n 2, 1) := by decide +kernel
theorem d_Council_weigh_3 : decode M_Council_weigh.2.1 3 = .ok (.aload_n 0, 1) := by decide +kernel
theorem d_Council_weigh_4 : decode M_Council_weigh.2.1 4 = .ok (.getfield 9, 3) := by decide +kernel
theorem d_Council_weigh_7 : decode M_Council_weigh.2.1 7 = .ok (.arraylength, 1) := by decide +kernel
theorem d_Council_weigh_8 : decode M_Council_weigh.2.1 8 = .ok (.if_icmp .ge 29, 3) := by decide +kernel
theorem d_Council_weigh_11 : decode M_Council_weigh.2.1 11 = .ok (.aload_n 0, 1) := by decide +kernel
theorem d_Council_weigh_12 : decode M_Council_weigh.2.1 12 = .ok (.getfield 9, 3) := by decide +kernel
theorem d_Council_weigh_15 : decode M_Council_weigh.2.1 15 = .ok (.iload_n 2, 1) := by decide +kernel
theorem d_Council_weigh_16 : decode M_Council_weigh.2.1 16 = .ok (.aload_n 0, 1) := by decide +kernel
theorem d_Council_weigh_17 : decode M_Council_weigh.2.1 17 = .ok (.getfield 22, 3) := by decide +kernel
theorem d_Council_weigh_20 : decode M_Council_weigh.2.1 20 = .ok (.iload_n 1, 1) := by decide +kernel
theorem d_Council_weigh_21 : decode M_Council_weigh.2.1 21 = .ok (.iload_n 2, 1) := by decide +kernel
theorem d_Council_weigh_22 : decode M_Council_weigh.2.1 22 = .ok (.iconst 2, 1) := by decide +kernel
theorem d_Council_weigh_23 : decode M_Council_weigh.2.1 23 = .ok (.idiv, 1) := by decide +kernel
theorem d_Council_weigh_24 : decode M_Council_weigh.2.1 24 = .ok (.iload_n 2, 1) := by decide +kernel
theorem d_Council_weigh_25 : decode M_Council_weigh.2.1 25 = .ok (.iconst 2, 1) := by decide +kernel
theorem d_Council_weigh_26 : decode M_Council_weigh.2.1 26 = .ok (.irem, 1) := by decide +kernel
theorem d_Council_weigh_27 : decode M_Council_weigh.2.1 27 = .ok (.invokevirtual 26, 3) := by decide +kernel
theorem d_Council_weigh_30 : decode M_Council_weigh.2.1 30 = .ok (.iastore, 1) := by decide +kernel
theorem d_Council_weigh_31 : decode M_Council_weigh.2.1 31 = .ok (.iinc 2 1, 3) := by decide +kernel
theorem d_Council_weigh_34 : decode M_Council_weigh.2.1 34 = .ok (.goto (-32), 3) := by decide +kernel
theorem d_Council_weigh_37 : decode M_Council_weigh.2.1 37 = .ok (.iconst 0, 1) := by decide +kernel
theorem d_Council_weigh_38 : decode M_Council_weigh.2.1 38 = .ok (.istore_n 2, 1) := by decide +kernel
theorem d_Council_weigh_39 : decode M_Council_weigh.2.1 39 = .ok (.iload_n 2, 1) := by decide +kernel
theorem d_Council_weigh_40 : decode M_Council_weigh.2.1 40 = .ok (.aload_n 0, 1) := by decide +kernel
theorem d_Council_weigh_41 : decode M_Council_weigh.2.1 41 = .ok (.getfield 15, 3) := by decide +kernel
theorem d_Council_weigh_44 : decode M_Council_weigh.2.1 44 = .ok (.arraylength, 1) := by decide +kernel
theorem d_Council_weigh_45 : decode M_Council_weigh.2.1 45 = .ok (.if_icmp .ge 36, 3) := by decide +kernel
theorem d_Council_weigh_48 : decode M_Council_weigh.2.1 48 = .ok (.iload_n 2, 1) := by decide +kernel
theorem d_Council_weigh_49 : decode M_Council_weigh.2.1 49 = .ok (.iconst 4, 1) := by decide +kernel
theorem d_Council_weigh_50 : decode M_Council_weigh.2.1 50 = .ok (.idiv, 1) := by decide +kernel
theorem d_Council_weigh_51 : decode M_Council_weigh.2.1 51 = .ok (.istore_n 3, 1) := by decide +kernel
theorem d_Council_weigh_52 : decode M_Council_weigh.2.1 52 = .ok (.aload_n 0, 1) := by decide +kernel
theorem d_Council_weigh_53 : decode M_Council_weigh.2.1 53 = .ok (.getfield 15, 3) := by decide +kernel
theorem d_Council_weigh_56 : decode M_Council_weigh.2.1 56 = .ok (.iload_n 2, 1) := by decide +kernel
theorem d_Council_weigh_57 : decode M_Council_weigh.2.1 57 = .ok (.aload_n 0, 1) := by decide +kernel
theorem d_Council_weigh_58 : decode M_Council_weigh.2.1 58 = .ok (.getfield 22, 3) := by decide +kernel
theorem d_Council_weigh_61 : decode M_Council_weigh.2.1 61 = .ok (.iload_n 1, 1) := by decide +kernel
theorem d_Council_weigh_62 : decode M_Council_weigh.2.1 62 = .ok (.iload_n 3, 1) := by decide +kernel
theorem d_Council_weigh_63 : decode M_Council_weigh.2.1 63 = .ok (.iconst 2, 1) := by decide +kernel
theorem d_Council_weigh_64 : decode M_Council_weigh.2.1 64 = .ok (.idiv, 1) := by decide +kernel
theorem d_Council_weigh_65 : decode M_Council_weigh.2.1 65 = .ok (.iload_n 3, 1) := by decide +kernel
theorem d_Council_weigh_66 : decode M_Council_weigh.2.1 66 = .ok (.iconst 2, 1) := by decide +kernel
theorem d_Council_weigh_67 : decode M_Council_weigh.2.1 67 = .ok (.irem, 1) := by decide +kernel
theorem d_Council_weigh_68 : decode M_Council_weigh.2.1 68 = .ok (.iload_n 2, 1) := by decide +kernel
theorem d_Council_weigh_69 : decode M_Council_weigh.2.1 69 = .ok (.iconst 4, 1) := by decide +kernel
theorem d_Council_weigh_70 : decode M_Council_weigh.2.1 70 = .ok (.irem, 1) := by decide +kernel
theorem d_Council_weigh_71 : decode M_Council_weigh.2.1 71 = .ok (.invokevirtual 32, 3) := by decide +kernel
theorem d_Council_weigh_74 : decode M_Council_weigh.2.1 74 = .ok (.iastore, 1) := by decide +kernel
theorem d_Council_weigh_75 : decode M_Council_weigh.2.1 75 = .ok (.iinc 2 1, 3) := by decide +kernel
theorem d_Council_weigh_78 : decode M_Council_weigh.2.1 78 = .ok (.goto (-39), 3) := by decide +kernel
theorem d_Council_weigh_81 : decode M_Council_weigh.2.1 81 = .ok (.return_, 1) := by decide +kernel
theorem d_Council_shareOf_0 : decode M_Council_shareOf.2.1 0 = .ok (.iload_n 2, 1) := by decide +kernel
theorem d_Council_shareOf_1 : decode M_Council_shareOf.2.1 1 = .ok (.iload_n 1, 1) := by decide +kernel
theorem d_Council_shareOf_2 : decode M_Council_shareOf.2.1 2 = .ok (.ishr, 1) := by decide +kernel
theorem d_Council_shareOf_3 : decode M_Council_shareOf.2.1 3 = .ok (.iconst 1, 1) := by decide +kernel
theorem d_Council_shareOf_4 : decode M_Council_shareOf.2.1 4 = .ok (.iand, 1) := by decide +kernel
theorem d_Council_shareOf_5 : decode M_Council_shareOf.2.1 5 = .ok (.istore_n 3, 1) := by decide +kernel
theorem d_Council_shareOf_6 : decode M_Council_shareOf.2.1 6 = .ok (.iconst 0, 1) := by decide +kernel
theorem d_Council_shareOf_7 : decode M_Council_shareOf.2.1 7 = .ok (.istore 4, 2) := by decide +kernel
theorem d_Council_shareOf_9 : decode M_Council_shareOf.2.1 9 = .ok (.iconst 0, 1) := by decide +kernel
theorem d_Council_shareOf_10 : decode M_Council_shareOf.2.1 10 = .ok (.istore 5, 2) := by decide +kernel
theorem d_Council_shareOf_12 : decode M_Council_shareOf.2.1 12 = .ok (.iload 5, 2) := by decide +kernel
theorem d_Council_shareOf_14 : decode M_Council_shareOf.2.1 14 = .ok (.iconst 4, 1) := by decide +kernel
theorem d_Council_shareOf_15 : decode M_Council_shareOf.2.1 15 = .ok (.if_icmp .ge 29, 3) := by decide +kernel
theorem d_Council_shareOf_18 : decode M_Council_shareOf.2.1 18 = .ok (.iload 4, 2) := by decide +kernel
theorem d_Council_shareOf_20 : decode M_Council_shareOf.2.1 20 = .ok (.iload_n 2, 1) := by decide +kernel
theorem d_Council_shareOf_21 : decode M_Council_shareOf.2.1 21 = .ok (.iload 5, 2) := by decide +kernel
theorem d_Council_shareOf_23 : decode M_Council_shareOf.2.1 23 = .ok (.ishr, 1) := by decide +kernel
theorem d_Council_shareOf_24 : decode M_Council_shareOf.2.1 24 = .ok (.iconst 1, 1) := by decide +kernel
theorem d_Council_shareOf_25 : decode M_Council_shareOf.2.1 25 = .ok (.iand, 1) := by decide +kernel
theorem d_Council_shareOf_26 : decode M_Council_shareOf.2.1 26 = .ok (.iload_n 3, 1) := by decide +kernel
theorem d_Council_shareOf_27 : decode M_Council_shareOf.2.1 27 = .ok (.if_icmp .eq 7, 3) := by decide +kernel
theorem d_Council_shareOf_30 : decode M_Council_shareOf.2.1 30 = .ok (.iconst 1, 1) := by decide +kernel
theorem d_Council_shareOf_31 : decode M_Council_shareOf.2.1 31 = .ok (.goto 4, 3) := by decide +kernel
theorem d_Council_shareOf_34 : decode M_Council_shareOf.2.1 34 = .ok (.iconst 0, 1) := by decide +kernel
theorem d_Council_shareOf_35 : decode M_Council_shareOf.2.1 35 = .ok (.iadd, 1) := by decide +kernel
theorem d_Council_shareOf_36 : decode M_Council_shareOf.2.1 36 = .ok (.istore 4, 2) := by decide +kernel
theorem d_Council_shareOf_38 : decode M_Council_shareOf.2.1 38 = .ok (.iinc 5 1, 3) := by decide +kernel
theorem d_Council_shareOf_41 : decode M_Council_shareOf.2.1 41 = .ok (.goto (-29), 3) := by decide +kernel
theorem d_Council_shareOf_44 : decode M_Council_shareOf.2.1 44 = .ok (.iconst 2, 1) := by decide +kernel
theorem d_Council_shareOf_45 : decode M_Council_shareOf.2.1 45 = .ok (.iload_n 1, 1) := by decide +kernel
theorem d_Council_shareOf_46 : decode M_Council_shareOf.2.1 46 = .ok (.imul, 1) := by decide +kernel
theorem d_Council_shareOf_47 : decode M_Council_shareOf.2.1 47 = .ok (.iload_n 3, 1) := by decide +kernel
theorem d_Council_shareOf_48 : decode M_Council_shareOf.2.1 48 = .ok (.iadd, 1) := by decide +kernel
theorem d_Council_shareOf_49 : decode M_Council_shareOf.2.1 49 = .ok (.istore 5, 2) := by decide +kernel
theorem d_Council_shareOf_51 : decode M_Council_shareOf.2.1 51 = .ok (.iload 5, 2) := by decide +kernel
theorem d_Council_shareOf_53 : decode M_Council_shareOf.2.1 53 = .ok (.iconst 4, 1) := by decide +kernel
theorem d_Council_shareOf_54 : decode M_Council_shareOf.2.1 54 = .ok (.imul, 1) := by decide +kernel
theorem d_Council_shareOf_55 : decode M_Council_shareOf.2.1 55 = .ok (.iload 4, 2) := by decide +kernel
theorem d_Council_shareOf_57 : decode M_Council_shareOf.2.1 57 = .ok (.iadd, 1) := by decide +kernel
theorem d_Council_shareOf_58 : decode M_Council_shareOf.2.1 58 = .ok (.istore 6, 2) := by decide +kernel
theorem d_Council_shareOf_60 : decode M_Council_shareOf.2.1 60 = .ok (.iload 5, 2) := by decide +kernel
theorem d_Council_shareOf_62 : decode M_Council_shareOf.2.1 62 = .ok (.aload_n 0, 1) := by decide +kernel
theorem d_Council_shareOf_63 : decode M_Council_shareOf.2.1 63 = .ok (.getfield 9, 3) := by decide +kernel
theorem d_Council_shareOf_66 : decode M_Council_shareOf.2.1 66 = .ok (.arraylength, 1) := by decide +kernel
theorem d_Council_shareOf_67 : decode M_Council_shareOf.2.1 67 = .ok (.invokestatic 40, 3) := by decide +kernel
theorem d_Council_shareOf_70 : decode M_Council_shareOf.2.1 70 = .ok (.ifCond .eq 16, 3) := by decide +kernel
theorem d_Council_shareOf_73 : decode M_Council_shareOf.2.1 73 = .ok (.iload 6, 2) := by decide +kernel
theorem d_Council_shareOf_75 : decode M_Council_shareOf.2.1 75 = .ok (.aload_n 0, 1) := by decide +kernel
theorem d_Council_shareOf_76 : decode M_Council_shareOf.2.1 76 = .ok (.getfield 15, 3) := by decide +kernel
theorem d_Council_shareOf_79 : decode M_Council_shareOf.2.1 79 = .ok (.arraylength, 1) := by decide +kernel
theorem d_Council_shareOf_80 : decode M_Council_shareOf.2.1 80 = .ok (.invokestatic 40, 3) := by decide +kernel
theorem d_Council_shareOf_83 : decode M_Council_shareOf.2.1 83 = .ok (.ifCond .ne 5, 3) := by decide +kernel
theorem d_Council_shareOf_86 : decode M_Council_shareOf.2.1 86 = .ok (.iconst 0, 1) := by decide +kernel
theorem d_Council_shareOf_87 : decode M_Council_shareOf.2.1 87 = .ok (.ireturn, 1) := by decide +kernel
theorem d_Council_shareOf_88 : decode M_Council_shareOf.2.1 88 = .ok (.aload_n 0, 1) := by decide +kernel
theorem d_Council_shareOf_89 : decode M_Council_shareOf.2.1 89 = .ok (.getfield 9, 3) := by decide +kernel
theorem d_Council_shareOf_92 : decode M_Council_shareOf.2.1 92 = .ok (.iload 5, 2) := by decide +kernel
theorem d_Council_shareOf_94 : decode M_Council_shareOf.2.1 94 = .ok (.iaload, 1) := by decide +kernel
theorem d_Council_shareOf_95 : decode M_Council_shareOf.2.1 95 = .ok (.aload_n 0, 1) := by decide +kernel
theorem d_Council_shareOf_96 : decode M_Council_shareOf.2.1 96 = .ok (.getfield 15, 3) := by decide +kernel
theorem d_Council_shareOf_99 : decode M_Council_shareOf.2.1 99 = .ok (.iload 6, 2) := by decide +kernel
theorem d_Council_shareOf_101 : decode M_Council_shareOf.2.1 101 = .ok (.iaload, 1) := by decide +kernel
theorem d_Council_shareOf_102 : decode M_Council_shareOf.2.1 102 = .ok (.iadd, 1) := by decide +kernel
theorem d_Council_shareOf_103 : decode M_Council_shareOf.2.1 103 = .ok (.ireturn, 1) := by decide +kernel
theorem d_Council_isEven_0 : decode M_Council_isEven.2.1 0 = .ok (.iconst 0, 1) := by decide +kernel
theorem d_Council_isEven_1 : decode M_Council_isEven.2.1 1 = .ok (.istore_n 2, 1) := by decide +kernel
theorem d_Council_isEven_2 : decode M_Council_isEven.2.1 2 = .ok (.iload_n 2, 1) := by decide +kernel
theorem d_Council_isEven_3 : decode M_Council_isEven.2.1 3 = .ok (.iconst 4, 1) := by decide +kernel
theorem d_Council_isEven_4 : decode M_Council_isEven.2.1 4 = .ok (.if_icmp .ge 30, 3) := by decide +kernel
theorem d_Council_isEven_7 : decode M_Council_isEven.2.1 7 = .ok (.aload_n 0, 1) := by decide +kernel
theorem d_Council_isEven_8 : decode M_Council_isEven.2.1 8 = .ok (.iload_n 2, 1) := by decide +kernel
theorem d_Council_isEven_9 : decode M_Council_isEven.2.1 9 = .ok (.iload_n 1, 1) := by decide +kernel
theorem d_Council_isEven_10 : decode M_Council_isEven.2.1 10 = .ok (.iconst 1, 1) := by decide +kernel
theorem d_Council_isEven_11 : decode M_Council_isEven.2.1 11 = .ok (.iload_n 2, 1) := by decide +kernel
theorem d_Council_isEven_12 : decode M_Council_isEven.2.1 12 = .ok (.ishl, 1) := by decide +kernel
theorem d_Council_isEven_13 : decode M_Council_isEven.2.1 13 = .ok (.ixor, 1) := by decide +kernel
theorem d_Council_isEven_14 : decode M_Council_isEven.2.1 14 = .ok (.invokevirtual 36, 3) := by decide +kernel
theorem d_Council_isEven_17 : decode M_Council_isEven.2.1 17 = .ok (.aload_n 0, 1) := by decide +kernel
theorem d_Council_isEven_18 : decode M_Council_isEven.2.1 18 = .ok (.iload_n 2, 1) := by decide +kernel
theorem d_Council_isEven_19 : decode M_Council_isEven.2.1 19 = .ok (.iload_n 1, 1) := by decide +kernel
theorem d_Council_isEven_20 : decode M_Council_isEven.2.1 20 = .ok (.invokevirtual 36, 3) := by decide +kernel
theorem d_Council_isEven_23 : decode M_Council_isEven.2.1 23 = .ok (.if_icmp .le 5, 3) := by decide +kernel
theorem d_Council_isEven_26 : decode M_Council_isEven.2.1 26 = .ok (.iconst 0, 1) := by decide +kernel
theorem d_Council_isEven_27 : decode M_Council_isEven.2.1 27 = .ok (.ireturn, 1) := by decide +kernel
theorem d_Council_isEven_28 : decode M_Council_isEven.2.1 28 = .ok (.iinc 2 1, 3) := by decide +kernel
theorem d_Council_isEven_31 : decode M_Council_isEven.2.1 31 = .ok (.goto (-29), 3) := by decide +kernel
theorem d_Council_isEven_34 : decode M_Council_isEven.2.1 34 = .ok (.iconst 1, 1) := by decide +kernel
theorem d_Council_isEven_35 : decode M_Council_isEven.2.1 35 = .ok (.ireturn, 1) := by decide +kernel
theorem d_Ww_even_0 : decode M_Ww_even.2.1 0 = .ok (.iload_n 1, 1) := by decide +kernel
theorem d_Ww_even_1 : decode M_Ww_even.2.1 1 = .ok (.bipush 30, 2) := by decide +kernel
theorem d_Ww_even_3 : decode M_Ww_even.2.1 3 = .ok (.invokestatic 80, 3) := by decide +kernel
theorem d_Ww_even_6 : decode M_Ww_even.2.1 6 = .ok (.ifCond .eq 8, 3) := by decide +kernel
theorem d_Ww_even_9 : decode M_Ww_even.2.1 9 = .ok (.iload_n 2, 1) := by decide +kernel
theorem d_Ww_even_10 : decode M_Ww_even.2.1 10 = .ok (.iconst (-1), 1) := by decide +kernel
theorem d_Ww_even_11 : decode M_Ww_even.2.1 11 = .ok (.if_icmp .ge 5, 3) := by decide +kernel
theorem d_Ww_even_14 : decode M_Ww_even.2.1 14 = .ok (.iconst (-1), 1) := by decide +kernel
theorem d_Ww_even_15 : decode M_Ww_even.2.1 15 = .ok (.ireturn, 1) := by decide +kernel
theorem d_Ww_even_16 : decode M_Ww_even.2.1 16 = .ok (.aload_n 0, 1) := by decide +kernel
theorem d_Ww_even_17 : decode M_Ww_even.2.1 17 = .ok (.getfield 69, 3) := by decide +kernel
theorem d_Ww_even_20 : decode M_Ww_even.2.1 20 = .ok (.iload_n 1, 1) := by decide +kernel
theorem d_Ww_even_21 : decode M_Ww_even.2.1 21 = .ok (.invokevirtual 224, 3) := by decide +kernel
theorem d_Ww_even_24 : decode M_Ww_even.2.1 24 = .ok (.iconst 0, 1) := by decide +kernel
theorem d_Ww_even_25 : decode M_Ww_even.2.1 25 = .ok (.istore_n 3, 1) := by decide +kernel
theorem d_Ww_even_26 : decode M_Ww_even.2.1 26 = .ok (.iconst 0, 1) := by decide +kernel
theorem d_Ww_even_27 : decode M_Ww_even.2.1 27 = .ok (.istore 4, 2) := by decide +kernel
theorem d_Ww_even_29 : decode M_Ww_even.2.1 29 = .ok (.iload 4, 2) := by decide +kernel
theorem d_Ww_even_31 : decode M_Ww_even.2.1 31 = .ok (.bipush 16, 2) := by decide +kernel
theorem d_Ww_even_33 : decode M_Ww_even.2.1 33 = .ok (.if_icmp .ge 32, 3) := by decide +kernel
theorem d_Ww_even_36 : decode M_Ww_even.2.1 36 = .ok (.aload_n 0, 1) := by decide +kernel
theorem d_Ww_even_37 : decode M_Ww_even.2.1 37 = .ok (.getfield 69, 3) := by decide +kernel
theorem d_Ww_even_40 : decode M_Ww_even.2.1 40 = .ok (.iload 4, 2) := by decide +kernel
theorem d_Ww_even_42 : decode M_Ww_even.2.1 42 = .ok (.invokevirtual 227, 3) := by decide +kernel
theorem d_Ww_even_45 : decode M_Ww_even.2.1 45 = .ok (.ifCond .eq 14, 3) := by decide +kernel
theorem d_Ww_even_48 : decode M_Ww_even.2.1 48 = .ok (.iload_n 3, 1) := by decide +kernel
theorem d_Ww_even_49 : decode M_Ww_even.2.1 49 = .ok (.iload_n 2, 1) := by decide +kernel
theorem d_Ww_even_50 : decode M_Ww_even.2.1 50 = .ok (.if_icmp .ne 6, 3) := by decide +kernel
theorem d_Ww_even_53 : decode M_Ww_even.2.1 53 = .ok (.iload 4, 2) := by decide +kernel
theorem d_Ww_even_55 : decode M_Ww_even.2.1 55 = .ok (.ireturn, 1) := by decide +kernel
theorem d_Ww_even_56 : decode M_Ww_even.2.1 56 = .ok (.iinc 3 1, 3) := by decide +kernel
theorem d_Ww_even_59 : decode M_Ww_even.2.1 59 = .ok (.iinc 4 1, 3) := by decide +kernel
theorem d_Ww_even_62 : decode M_Ww_even.2.1 62 = .ok (.goto (-33), 3) := by decide +kernel
theorem d_Ww_even_65 : decode M_Ww_even.2.1 65 = .ok (.iload_n 2, 1) := by decide +kernel
theorem d_Ww_even_66 : decode M_Ww_even.2.1 66 = .ok (.iconst (-1), 1) := by decide +kernel
theorem d_Ww_even_67 : decode M_Ww_even.2.1 67 = .ok (.if_icmp .ne 7, 3) := by decide +kernel
theorem d_Ww_even_70 : decode M_Ww_even.2.1 70 = .ok (.iload_n 3, 1) := by decide +kernel
theorem d_Ww_even_71 : decode M_Ww_even.2.1 71 = .ok (.goto 4, 3) := by decide +kernel
theorem d_Ww_even_74 : decode M_Ww_even.2.1 74 = .ok (.iconst (-1), 1) := by decide +kernel
theorem d_Ww_even_75 : decode M_Ww_even.2.1 75 = .ok (.ireturn, 1) := by decide +kernel
theorem d_Rolls_wetDecreesOn_0 : decode M_Rolls_wetDecreesOn.2.1 0 = .ok (.iconst 0, 1) := by decide +kernel
theorem d_Rolls_wetDecreesOn_1 : decode M_Rolls_wetDecreesOn.2.1 1 = .ok (.istore_n 2, 1) := by decide +kernel
theorem d_Rolls_wetDecreesOn_2 : decode M_Rolls_wetDecreesOn.2.1 2 = .ok (.iconst 0, 1) := by decide +kernel
theorem d_Rolls_wetDecreesOn_3 : decode M_Rolls_wetDecreesOn.2.1 3 = .ok (.istore_n 3, 1) := by decide +kernel
theorem d_Rolls_wetDecreesOn_4 : decode M_Rolls_wetDecreesOn.2.1 4 = .ok (.iload_n 3, 1) := by decide +kernel
theorem d_Rolls_wetDecreesOn_5 : decode M_Rolls_wetDecreesOn.2.1 5 = .ok (.iconst 4, 1) := by decide +kernel
theorem d_Rolls_wetDecreesOn_6 : decode M_Rolls_wetDecreesOn.2.1 6 = .ok (.if_icmp .ge 18, 3) := by decide +kernel
theorem d_Rolls_wetDecreesOn_9 : decode M_Rolls_wetDecreesOn.2.1 9 = .ok (.iload_n 2, 1) := by decide +kernel
theorem d_Rolls_wetDecreesOn_10 : decode M_Rolls_wetDecreesOn.2.1 10 = .ok (.aload_n 0, 1) := by decide +kernel
theorem d_Rolls_wetDecreesOn_11 : decode M_Rolls_wetDecreesOn.2.1 11 = .ok (.iload_n 1, 1) := by decide +kernel
theorem d_Rolls_wetDecreesOn_12 : decode M_Rolls_wetDecreesOn.2.1 12 = .ok (.iload_n 3, 1) := by decide +kernel
theorem d_Rolls_wetDecreesOn_13 : decode M_Rolls_wetDecreesOn.2.1 13 = .ok (.invokevirtual 68, 3) := by decide +kernel
theorem d_Rolls_wetDecreesOn_16 : decode M_Rolls_wetDecreesOn.2.1 16 = .ok (.iadd, 1) := by decide +kernel
theorem d_Rolls_wetDecreesOn_17 : decode M_Rolls_wetDecreesOn.2.1 17 = .ok (.istore_n 2, 1) := by decide +kernel
theorem d_Rolls_wetDecreesOn_18 : decode M_Rolls_wetDecreesOn.2.1 18 = .ok (.iinc 3 1, 3) := by decide +kernel
theorem d_Rolls_wetDecreesOn_21 : decode M_Rolls_wetDecreesOn.2.1 21 = .ok (.goto (-17), 3) := by decide +kernel
theorem d_Rolls_wetDecreesOn_24 : decode M_Rolls_wetDecreesOn.2.1 24 = .ok (.iload_n 2, 1) := by decide +kernel
theorem d_Rolls_wetDecreesOn_25 : decode M_Rolls_wetDecreesOn.2.1 25 = .ok (.ireturn, 1) := by decide +kernel
theorem d_Ww_flood_0 : decode M_Ww_flood.2.1 0 = .ok (.iconst 0, 1) := by decide +kernel
theorem d_Ww_flood_1 : decode M_Ww_flood.2.1 1 = .ok (.istore_n 2, 1) := by decide +kernel
theorem d_Ww_flood_2 : decode M_Ww_flood.2.1 2 = .ok (.iconst 0, 1) := by decide +kernel
theorem d_Ww_flood_3 : decode M_Ww_flood.2.1 3 = .ok (.istore_n 3, 1) := by decide +kernel
theorem d_Ww_flood_4 : decode M_Ww_flood.2.1 4 = .ok (.iload_n 3, 1) := by decide +kernel
theorem d_Ww_flood_5 : decode M_Ww_flood.2.1 5 = .ok (.bipush 30, 2) := by decide +kernel
theorem d_Ww_flood_7 : decode M_Ww_flood.2.1 7 = .ok (.if_icmp .ge 44, 3) := by decide +kernel
theorem d_Ww_flood_10 : decode M_Ww_flood.2.1 10 = .ok (.aload_n 0, 1) := by decide +kernel
theorem d_Ww_flood_11 : decode M_Ww_flood.2.1 11 = .ok (.getfield 10, 3) := by decide +kernel
theorem d_Ww_flood_14 : decode M_Ww_flood.2.1 14 = .ok (.getfield 88, 3) := by decide +kernel
theorem d_Ww_flood_17 : decode M_Ww_flood.2.1 17 = .ok (.iload_n 3, 1) := by decide +kernel
theorem d_Ww_flood_18 : decode M_Ww_flood.2.1 18 = .ok (.iaload, 1) := by decide +kernel
theorem d_Ww_flood_19 : decode M_Ww_flood.2.1 19 = .ok (.iconst 5, 1) := by decide +kernel
theorem d_Ww_flood_20 : decode M_Ww_flood.2.1 20 = .ok (.if_icmp .ge 25, 3) := by decide +kernel
theorem d_Ww_flood_23 : decode M_Ww_flood.2.1 23 = .ok (.aload_n 0, 1) := by decide +kernel
theorem d_Ww_flood_24 : decode M_Ww_flood.2.1 24 = .ok (.getfield 10, 3) := by decide +kernel
theorem d_Ww_flood_27 : decode M_Ww_flood.2.1 27 = .ok (.iload_n 3, 1) := by decide +kernel
theorem d_Ww_flood_28 : decode M_Ww_flood.2.1 28 = .ok (.invokevirtual 230, 3) := by decide +kernel
theorem d_Ww_flood_31 : decode M_Ww_flood.2.1 31 = .ok (.iconst 4, 1) := by decide +kernel
theorem d_Ww_flood_32 : decode M_Ww_flood.2.1 32 = .ok (.if_icmp .ne 13, 3) := by decide +kernel
theorem d_Ww_flood_35 : decode M_Ww_flood.2.1 35 = .ok (.iload_n 2, 1) := by decide +kernel
theorem d_Ww_flood_36 : decode M_Ww_flood.2.1 36 = .ok (.iload_n 1, 1) := by decide +kernel
theorem d_Ww_flood_37 : decode M_Ww_flood.2.1 37 = .ok (.if_icmp .ne 5, 3) := by decide +kernel
theorem d_Ww_flood_40 : decode M_Ww_flood.2.1 40 = .ok (.iload_n 3, 1) := by decide +kernel
theorem d_Ww_flood_41 : decode M_Ww_flood.2.1 41 = .ok (.ireturn, 1) := by decide +kernel
theorem d_Ww_flood_42 : decode M_Ww_flood.2.1 42 = .ok (.iinc 2 1, 3) := by decide +kernel
theorem d_Ww_flood_45 : decode M_Ww_flood.2.1 45 = .ok (.iinc 3 1, 3) := by decide +kernel
theorem d_Ww_flood_48 : decode M_Ww_flood.2.1 48 = .ok (.goto (-44), 3) := by decide +kernel
theorem d_Ww_flood_51 : decode M_Ww_flood.2.1 51 = .ok (.iload_n 1, 1) := by decide +kernel
theorem d_Ww_flood_52 : decode M_Ww_flood.2.1 52 = .ok (.iconst (-1), 1) := by decide +kernel
theorem d_Ww_flood_53 : decode M_Ww_flood.2.1 53 = .ok (.if_icmp .ne 7, 3) := by decide +kernel
theorem d_Ww_flood_56 : decode M_Ww_flood.2.1 56 = .ok (.iload_n 2, 1) := by decide +kernel
theorem d_Ww_flood_57 : decode M_Ww_flood.2.1 57 = .ok (.goto 4, 3) := by decide +kernel
theorem d_Ww_flood_60 : decode M_Ww_flood.2.1 60 = .ok (.iconst (-1), 1) := by decide +kernel
theorem d_Ww_flood_61 : decode M_Ww_flood.2.1 61 = .ok (.ireturn, 1) := by decide +kernel
theorem d_Law_clauseAt_0 : decode M_Law_clauseAt.2.1 0 = .ok (.iload_n 1, 1) := by decide +kernel
theorem d_Law_clauseAt_1 : decode M_Law_clauseAt.2.1 1 = .ok (.aload_n 0, 1) := by decide +kernel
theorem d_Law_clauseAt_2 : decode M_Law_clauseAt.2.1 2 = .ok (.getfield 30, 3) := by decide +kernel
theorem d_Law_clauseAt_5 : decode M_Law_clauseAt.2.1 5 = .ok (.invokestatic 37, 3) := by decide +kernel
theorem d_Law_clauseAt_8 : decode M_Law_clauseAt.2.1 8 = .ok (.ifCond .eq 18, 3) := by decide +kernel
theorem d_Law_clauseAt_11 : decode M_Law_clauseAt.2.1 11 = .ok (.iload_n 1, 1) := by decide +kernel
theorem d_Law_clauseAt_12 : decode M_Law_clauseAt.2.1 12 = .ok (.bipush 6, 2) := by decide +kernel
theorem d_Law_clauseAt_14 : decode M_Law_clauseAt.2.1 14 = .ok (.if_icmp .ge 12, 3) := by decide +kernel
theorem d_Law_clauseAt_17 : decode M_Law_clauseAt.2.1 17 = .ok (.aload_n 0, 1) := by decide +kernel
theorem d_Law_clauseAt_18 : decode M_Law_clauseAt.2.1 18 = .ok (.getfield 21, 3) := by decide +kernel
theorem d_Law_clauseAt_21 : decode M_Law_clauseAt.2.1 21 = .ok (.iload_n 1, 1) := by decide +kernel
theorem d_Law_clauseAt_22 : decode M_Law_clauseAt.2.1 22 = .ok (.iaload, 1) := by decide +kernel
theorem d_Law_clauseAt_23 : decode M_Law_clauseAt.2.1 23 = .ok (.goto 4, 3) := by decide +kernel
theorem d_Law_clauseAt_26 : decode M_Law_clauseAt.2.1 26 = .ok (.iconst (-1), 1) := by decide +kernel
theorem d_Law_clauseAt_27 : decode M_Law_clauseAt.2.1 27 = .ok (.ireturn, 1) := by decide +kernel
theorem d_Ww_reform_0 : decode M_Ww_reform.2.1 0 = .ok (.iload_n 1, 1) := by decide +kernel
theorem d_Ww_reform_1 : decode M_Ww_reform.2.1 1 = .ok (.iconst 2, 1) := by decide +kernel
theorem d_Ww_reform_2 : decode M_Ww_reform.2.1 2 = .ok (.invokestatic 80, 3) := by decide +kernel
theorem d_Ww_reform_5 : decode M_Ww_reform.2.1 5 = .ok (.ifCond .ne 5, 3) := by decide +kernel
theorem d_Ww_reform_8 : decode M_Ww_reform.2.1 8 = .ok (.iconst (-1), 1) := by decide +kernel
theorem d_Ww_reform_9 : decode M_Ww_reform.2.1 9 = .ok (.ireturn, 1) := by decide +kernel
theorem d_Ww_reform_10 : decode M_Ww_reform.2.1 10 = .ok (.aload_n 0, 1) := by decide +kernel
theorem d_Ww_reform_11 : decode M_Ww_reform.2.1 11 = .ok (.getfield 31, 3) := by decide +kernel
theorem d_Ww_reform_14 : decode M_Ww_reform.2.1 14 = .ok (.invokevirtual 141, 3) := by decide +kernel
theorem d_Ww_reform_17 : decode M_Ww_reform.2.1 17 = .ok (.astore_n 2, 1) := by decide +kernel
theorem d_Ww_reform_18 : decode M_Ww_reform.2.1 18 = .ok (.aload_n 0, 1) := by decide +kernel
theorem d_Ww_reform_19 : decode M_Ww_reform.2.1 19 = .ok (.getfield 53, 3) := by decide +kernel
theorem d_Ww_reform_22 : decode M_Ww_reform.2.1 22 = .ok (.iconst (-1), 1) := by decide +kernel
theorem d_Ww_reform_23 : decode M_Ww_reform.2.1 23 = .ok (.iconst 0, 1) := by decide +kernel
theorem d_Ww_reform_24 : decode M_Ww_reform.2.1 24 = .ok (.bipush 29, 2) := by decide +kernel
theorem d_Ww_reform_26 : decode M_Ww_reform.2.1 26 = .ok (.iconst 0, 1) := by decide +kernel
theorem d_Ww_reform_27 : decode M_Ww_reform.2.1 27 = .ok (.invokevirtual 190, 3) := by decide +kernel
theorem d_Ww_reform_30 : decode M_Ww_reform.2.1 30 = .ok (.istore_n 3, 1) := by decide +kernel
theorem d_Ww_reform_31 : decode M_Ww_reform.2.1 31 = .ok (.iconst (-1), 1) := by decide +kernel
theorem d_Ww_reform_32 : decode M_Ww_reform.2.1 32 = .ok (.istore 4, 2) := by decide +kernel
theorem d_Ww_reform_34 : decode M_Ww_reform.2.1 34 = .ok (.iconst 0, 1) := by decide +kernel
theorem d_Ww_reform_35 : decode M_Ww_reform.2.1 35 = .ok (.istore 5, 2) := by decide +kernel
theorem d_Ww_reform_37 : decode M_Ww_reform.2.1 37 = .ok (.iconst 0, 1) := by decide +kernel
theorem d_Ww_reform_38 : decode M_Ww_reform.2.1 38 = .ok (.istore 6, 2) := by decide +kernel
theorem d_Ww_reform_40 : decode M_Ww_reform.2.1 40 = .ok (.iload 6, 2) := by decide +kernel
theorem d_Ww_reform_42 : decode M_Ww_reform.2.1 42 = .ok (.aload_n 2, 1) := by decide +kernel
theorem d_Ww_reform_43 : decode M_Ww_reform.2.1 43 = .ok (.getfield 233, 3) := by decide +kernel
theorem d_Ww_reform_46 : decode M_Ww_reform.2.1 46 = .ok (.if_icmp .ge 84, 3) := by decide +kernel
theorem d_Ww_reform_49 : decode M_Ww_reform.2.1 49 = .ok (.aload_n 2, 1) := by decide +kernel
theorem d_Ww_reform_50 : decode M_Ww_reform.2.1 50 = .ok (.iload 6, 2) := by decide +kernel
theorem d_Ww_reform_52 : decode M_Ww_reform.2.1 52 = .ok (.invokevirtual 236, 3) := by decide +kernel
theorem d_Ww_reform_55 : decode M_Ww_reform.2.1 55 = .ok (.istore 7, 2) := by decide +kernel
theorem d_Ww_reform_57 : decode M_Ww_reform.2.1 57 = .ok (.aload_n 0, 1) := by decide +kernel
theorem d_Ww_reform_58 : decode M_Ww_reform.2.1 58 = .ok (.getfield 53, 3) := by decide +kernel
theorem d_Ww_reform_61 : decode M_Ww_reform.2.1 61 = .ok (.iload 7, 2) := by decide +kernel
theorem d_Ww_reform_63 : decode M_Ww_reform.2.1 63 = .ok (.putfield 239, 3) := by decide +kernel
theorem d_Ww_reform_66 : decode M_Ww_reform.2.1 66 = .ok (.iload 7, 2) := by decide +kernel
theorem d_Ww_reform_68 : decode M_Ww_reform.2.1 68 = .ok (.ifCond .eq 9, 3) := by decide +kernel
theorem d_Ww_reform_71 : decode M_Ww_reform.2.1 71 = .ok (.iload 7, 2) := by decide +kernel
theorem d_Ww_reform_73 : decode M_Ww_reform.2.1 73 = .ok (.iconst 5, 1) := by decide +kernel
theorem d_Ww_reform_74 : decode M_Ww_reform.2.1 74 = .ok (.if_icmp .ne 7, 3) := by decide +kernel
theorem d_Ww_reform_77 : decode M_Ww_reform.2.1 77 = .ok (.iconst 1, 1) := by decide +kernel
theorem d_Ww_reform_78 : decode M_Ww_reform.2.1 78 = .ok (.goto 4, 3) := by decide +kernel
theorem d_Ww_reform_81 : decode M_Ww_reform.2.1 81 = .ok (.iconst 0, 1) := by decide +kernel
theorem d_Ww_reform_82 : decode M_Ww_reform.2.1 82 = .ok (.istore 8, 2) := by decide +kernel
theorem d_Ww_reform_84 : decode M_Ww_reform.2.1 84 = .ok (.iload 8, 2) := by decide +kernel
theorem d_Ww_reform_86 : decode M_Ww_reform.2.1 86 = .ok (.ifCond .eq 7, 3) := by decide +kernel
theorem d_Ww_reform_89 : decode M_Ww_reform.2.1 89 = .ok (.iconst 0, 1) := by decide +kernel
theorem d_Ww_reform_90 : decode M_Ww_reform.2.1 90 = .ok (.goto 17, 3) := by decide +kernel
theorem d_Ww_reform_93 : decode M_Ww_reform.2.1 93 = .ok (.aload_n 0, 1) := by decide +kernel
theorem d_Ww_reform_94 : decode M_Ww_reform.2.1 94 = .ok (.getfield 53, 3) := by decide +kernel
theorem d_Ww_reform_97 : decode M_Ww_reform.2.1 97 = .ok (.iconst (-1), 1) := by decide +kernel
theorem d_Ww_reform_98 : decode M_Ww_reform.2.1 98 = .ok (.iconst 0, 1) := by decide +kernel
theorem d_Ww_reform_99 : decode M_Ww_reform.2.1 99 = .ok (.bipush 29, 2) := by decide +kernel
theorem d_Ww_reform_101 : decode M_Ww_reform.2.1 101 = .ok (.iconst 0, 1) := by decide +kernel
theorem d_Ww_reform_102 : decode M_Ww_reform.2.1 102 = .ok (.invokevirtual 190, 3) := by decide +kernel
theorem d_Ww_reform_105 : decode M_Ww_reform.2.1 105 = .ok (.iload_n 3, 1) := by decide +kernel
theorem d_Ww_reform_106 : decode M_Ww_reform.2.1 106 = .ok (.isub, 1) := by decide +kernel
theorem d_Ww_reform_107 : decode M_Ww_reform.2.1 107 = .ok (.istore 9, 2) := by decide +kernel
theorem d_Ww_reform_109 : decode M_Ww_reform.2.1 109 = .ok (.iload 9, 2) := by decide +kernel
theorem d_Ww_reform_111 : decode M_Ww_reform.2.1 111 = .ok (.iload 5, 2) := by decide +kernel
theorem d_Ww_reform_113 : decode M_Ww_reform.2.1 113 = .ok (.if_icmp .le 11, 3) := by decide +kernel
theorem d_Ww_reform_116 : decode M_Ww_reform.2.1 116 = .ok (.iload 9, 2) := by decide +kernel
theorem d_Ww_reform_118 : decode M_Ww_reform.2.1 118 = .ok (.istore 5, 2) := by decide +kernel
theorem d_Ww_reform_120 : decode M_Ww_reform.2.1 120 = .ok (.iload 6, 2) := by decide +kernel
theorem d_Ww_reform_122 : decode M_Ww_reform.2.1 122 = .ok (.istore 4, 2) := by decide +kernel
theorem d_Ww_reform_124 : decode M_Ww_reform.2.1 124 = .ok (.iinc 6 1, 3) := by decide +kernel
theorem d_Ww_reform_127 : decode M_Ww_reform.2.1 127 = .ok (.goto (-87), 3) := by decide +kernel
theorem d_Ww_reform_130 : decode M_Ww_reform.2.1 130 = .ok (.aload_n 0, 1) := by decide +kernel
theorem d_Ww_reform_131 : decode M_Ww_reform.2.1 131 = .ok (.getfield 53, 3) := by decide +kernel
theorem d_Ww_reform_134 : decode M_Ww_reform.2.1 134 = .ok (.iconst (-1), 1) := by decide +kernel
theorem d_Ww_reform_135 : decode M_Ww_reform.2.1 135 = .ok (.putfield 239, 3) := by decide +kernel
theorem d_Ww_reform_138 : decode M_Ww_reform.2.1 138 = .ok (.iload 4, 2) := by decide +kernel
theorem d_Ww_reform_140 : decode M_Ww_reform.2.1 140 = .ok (.iconst (-1), 1) := by decide +kernel
theorem d_Ww_reform_141 : decode M_Ww_reform.2.1 141 = .ok (.if_icmp .ne 5, 3) := by decide +kernel
theorem d_Ww_reform_144 : decode M_Ww_reform.2.1 144 = .ok (.iconst (-1), 1) := by decide +kernel
theorem d_Ww_reform_145 : decode M_Ww_reform.2.1 145 = .ok (.ireturn, 1) := by decide +kernel
theorem d_Ww_reform_146 : decode M_Ww_reform.2.1 146 = .ok (.iload_n 1, 1) := by decide +kernel
theorem d_Ww_reform_147 : decode M_Ww_reform.2.1 147 = .ok (.ifCond .ne 8, 3) := by decide +kernel
theorem d_Ww_reform_150 : decode M_Ww_reform.2.1 150 = .ok (.iload 4, 2) := by decide +kernel
theorem d_Ww_reform_152 : decode M_Ww_reform.2.1 152 = .ok (.goto 5, 3) := by decide +kernel
theorem d_Ww_reform_155 : decode M_Ww_reform.2.1 155 = .ok (.iload 5, 2) := by decide +kernel
theorem d_Ww_reform_157 : decode M_Ww_reform.2.1 157 = .ok (.ireturn, 1) := by decide +kernel
theorem d_Song_isVowel_0 : decode M_Song_isVowel.2.1 0 = .ok (.iload_n 0, 1) := by decide +kernel
theorem d_Song_isVowel_1 : decode M_Song_isVowel.2.1 1 = .ok (.bipush 97, 2) := by decide +kernel
theorem d_Song_isVowel_3 : decode M_Song_isVowel.2.1 3 = .ok (.if_icmp .eq 27, 3) := by decide +kernel
theorem d_Song_isVowel_6 : decode M_Song_isVowel.2.1 6 = .ok (.iload_n 0, 1) := by decide +kernel
theorem d_Song_isVowel_7 : decode M_Song_isVowel.2.1 7 = .ok (.bipush 101, 2) := by decide +kernel
theorem d_Song_isVowel_9 : decode M_Song_isVowel.2.1 9 = .ok (.if_icmp .eq 21, 3) := by decide +kernel
theorem d_Song_isVowel_12 : decode M_Song_isVowel.2.1 12 = .ok (.iload_n 0, 1) := by decide +kernel
theorem d_Song_isVowel_13 : decode M_Song_isVowel.2.1 13 = .ok (.bipush 105, 2) := by decide +kernel
theorem d_Song_isVowel_15 : decode M_Song_isVowel.2.1 15 = .ok (.if_icmp .eq 15, 3) := by decide +kernel
theorem d_Song_isVowel_18 : decode M_Song_isVowel.2.1 18 = .ok (.iload_n 0, 1) := by decide +kernel
theorem d_Song_isVowel_19 : decode M_Song_isVowel.2.1 19 = .ok (.bipush 111, 2) := by decide +kernel
theorem d_Song_isVowel_21 : decode M_Song_isVowel.2.1 21 = .ok (.if_icmp .eq 9, 3) := by decide +kernel
theorem d_Song_isVowel_24 : decode M_Song_isVowel.2.1 24 = .ok (.iload_n 0, 1) := by decide +kernel
theorem d_Song_isVowel_25 : decode M_Song_isVowel.2.1 25 = .ok (.bipush 117, 2) := by decide +kernel
theorem d_Song_isVowel_27 : decode M_Song_isVowel.2.1 27 = .ok (.if_icmp .ne 7, 3) := by decide +kernel
theorem d_Song_isVowel_30 : decode M_Song_isVowel.2.1 30 = .ok (.iconst 1, 1) := by decide +kernel
theorem d_Song_isVowel_31 : decode M_Song_isVowel.2.1 31 = .ok (.goto 4, 3) := by decide +kernel
theorem d_Song_isVowel_34 : decode M_Song_isVowel.2.1 34 = .ok (.iconst 0, 1) := by decide +kernel
theorem d_Song_isVowel_35 : decode M_Song_isVowel.2.1 35 = .ok (.ireturn, 1) := by decide +kernel
theorem d_Song_read_0 : decode M_Song_read.2.1 0 = .ok (.aload_n 0, 1) := by decide +kernel
theorem d_Song_read_1 : decode M_Song_read.2.1 1 = .ok (.iconst 0, 1) := by decide +kernel
theorem d_Song_read_2 : decode M_Song_read.2.1 2 = .ok (.putfield 15, 3) := by decide +kernel
theorem d_Song_read_5 : decode M_Song_read.2.1 5 = .ok (.iconst 0, 1) := by decide +kernel
theorem d_Song_read_6 : decode M_Song_read.2.1 6 = .ok (.istore_n 2, 1) := by decide +kernel
theorem d_Song_read_7 : decode M_Song_read.2.1 7 = .ok (.iconst 0, 1) := by decide +kernel
theorem d_Song_read_8 : decode M_Song_read.2.1 8 = .ok (.istore_n 3, 1) := by decide +kernel
theorem d_Song_read_9 : decode M_Song_read.2.1 9 = .ok (.iload_n 3, 1) := by decide +kernel
theorem d_Song_read_10 : decode M_Song_read.2.1 10 = .ok (.aload_n 1, 1) := by decide +kernel
theorem d_Song_read_11 : decode M_Song_read.2.1 11 = .ok (.getfield 19, 3) := by decide +kernel
theorem d_Song_read_14 : decode M_Song_read.2.1 14 = .ok (.if_icmp .ge 134, 3) := by decide +kernel
theorem d_Song_read_17 : decode M_Song_read.2.1 17 = .ok (.aload_n 1, 1) := by decide +kernel
theorem d_Song_read_18 : decode M_Song_read.2.1 18 = .ok (.iload_n 3, 1) := by decide +kernel
theorem d_Song_read_19 : decode M_Song_read.2.1 19 = .ok (.invokevirtual 24, 3) := by decide +kernel
theorem d_Song_read_22 : decode M_Song_read.2.1 22 = .ok (.istore 4, 2) := by decide +kernel
theorem d_Song_read_24 : decode M_Song_read.2.1 24 = .ok (.iload 4, 2) := by decide +kernel
theorem d_Song_read_26 : decode M_Song_read.2.1 26 = .ok (.bipush 32, 2) := by decide +kernel
theorem d_Song_read_28 : decode M_Song_read.2.1 28 = .ok (.if_icmp .eq 19, 3) := by decide +kernel
theorem d_Song_read_31 : decode M_Song_read.2.1 31 = .ok (.iload 4, 2) := by decide +kernel
theorem d_Song_read_33 : decode M_Song_read.2.1 33 = .ok (.bipush 97, 2) := by decide +kernel
theorem d_Song_read_35 : decode M_Song_read.2.1 35 = .ok (.if_icmp .lt 10, 3) := by decide +kernel
theorem d_Song_read_38 : decode M_Song_read.2.1 38 = .ok (.iload 4, 2) := by decide +kernel
theorem d_Song_read_40 : decode M_Song_read.2.1 40 = .ok (.bipush 122, 2) := by decide +kernel
theorem d_Song_read_42 : decode M_Song_read.2.1 42 = .ok (.if_icmp .le 5, 3) := by decide +kernel
theorem d_Song_read_45 : decode M_Song_read.2.1 45 = .ok (.iconst 0, 1) := by decide +kernel
theorem d_Song_read_46 : decode M_Song_read.2.1 46 = .ok (.ireturn, 1) := by decide +kernel
theorem d_Song_read_47 : decode M_Song_read.2.1 47 = .ok (.iload 4, 2) := by decide +kernel
theorem d_Song_read_49 : decode M_Song_read.2.1 49 = .ok (.bipush 32, 2) := by decide +kernel
theorem d_Song_read_51 : decode M_Song_read.2.1 51 = .ok (.if_icmp .eq 40, 3) := by decide +kernel
theorem d_Song_read_54 : decode M_Song_read.2.1 54 = .ok (.iload_n 2, 1) := by decide +kernel
theorem d_Song_read_55 : decode M_Song_read.2.1 55 = .ok (.ifCond .ne 36, 3) := by decide +kernel
theorem d_Song_read_58 : decode M_Song_read.2.1 58 = .ok (.aload_n 0, 1) := by decide +kernel
theorem d_Song_read_59 : decode M_Song_read.2.1 59 = .ok (.getfield 15, 3) := by decide +kernel
theorem d_Song_read_62 : decode M_Song_read.2.1 62 = .ok (.sipush 300, 3) := by decide +kernel
theorem d_Song_read_65 : decode M_Song_read.2.1 65 = .ok (.invokestatic 28, 3) := by decide +kernel
theorem d_Song_read_68 : decode M_Song_read.2.1 68 = .ok (.ifCond .eq 23, 3) := by decide +kernel
theorem d_Song_read_71 : decode M_Song_read.2.1 71 = .ok (.aload_n 0, 1) := by decide +kernel
theorem d_Song_read_72 : decode M_Song_read.2.1 72 = .ok (.getfield 9, 3) := by decide +kernel
theorem d_Song_read_75 : decode M_Song_read.2.1 75 = .ok (.aload_n 0, 1) := by decide +kernel
theorem d_Song_read_76 : decode M_Song_read.2.1 76 = .ok (.getfield 15, 3) := by decide +kernel
theorem d_Song_read_79 : decode M_Song_read.2.1 79 = .ok (.iconst 0, 1) := by decide +kernel
theorem d_Song_read_80 : decode M_Song_read.2.1 80 = .ok (.iastore, 1) := by decide +kernel
theorem d_Song_read_81 : decode M_Song_read.2.1 81 = .ok (.aload_n 0, 1) := by decide +kernel
theorem d_Song_read_82 : decode M_Song_read.2.1 82 = .ok (.dup, 1) := by decide +kernel
theorem d_Song_read_83 : decode M_Song_read.2.1 83 = .ok (.getfield 15, 3) := by decide +kernel
theorem d_Song_read_86 : decode M_Song_read.2.1 86 = .ok (.iconst 1, 1) := by decide +kernel
theorem d_Song_read_87 : decode M_Song_read.2.1 87 = .ok (.iadd, 1) := by decide +kernel
theorem d_Song_read_88 : decode M_Song_read.2.1 88 = .ok (.putfield 15, 3) := by decide +kernel
theorem d_Song_read_91 : decode M_Song_read.2.1 91 = .ok (.iload 4, 2) := by decide +kernel
theorem d_Song_read_93 : decode M_Song_read.2.1 93 = .ok (.bipush 32, 2) := by decide +kernel
theorem d_Song_read_95 : decode M_Song_read.2.1 95 = .ok (.if_icmp .eq 7, 3) := by decide +kernel
theorem d_Song_read_98 : decode M_Song_read.2.1 98 = .ok (.iconst 1, 1) := by decide +kernel
theorem d_Song_read_99 : decode M_Song_read.2.1 99 = .ok (.goto 4, 3) := by decide +kernel
theorem d_Song_read_102 : decode M_Song_read.2.1 102 = .ok (.iconst 0, 1) := by decide +kernel
theorem d_Song_read_103 : decode M_Song_read.2.1 103 = .ok (.istore_n 2, 1) := by decide +kernel
theorem d_Song_read_104 : decode M_Song_read.2.1 104 = .ok (.iload 4, 2) := by decide +kernel
theorem d_Song_read_106 : decode M_Song_read.2.1 106 = .ok (.invokestatic 32, 3) := by decide +kernel
theorem d_Song_read_109 : decode M_Song_read.2.1 109 = .ok (.ifCond .eq 33, 3) := by decide +kernel
theorem d_Song_read_112 : decode M_Song_read.2.1 112 = .ok (.aload_n 0, 1) := by decide +kernel
theorem d_Song_read_113 : decode M_Song_read.2.1 113 = .ok (.getfield 15, 3) := by decide +kernel
theorem d_Song_read_116 : decode M_Song_read.2.1 116 = .ok (.iconst 1, 1) := by decide +kernel
theorem d_Song_read_117 : decode M_Song_read.2.1 117 = .ok (.isub, 1) := by decide +kernel
theorem d_Song_read_118 : decode M_Song_read.2.1 118 = .ok (.sipush 300, 3) := by decide +kernel
theorem d_Song_read_121 : decode M_Song_read.2.1 121 = .ok (.invokestatic 28, 3) := by decide +kernel
theorem d_Song_read_124 : decode M_Song_read.2.1 124 = .ok (.ifCond .eq 18, 3) := by decide +kernel
theorem d_Song_read_127 : decode M_Song_read.2.1 127 = .ok (.aload_n 0, 1) := by decide +kernel
theorem d_Song_read_128 : decode M_Song_read.2.1 128 = .ok (.getfield 9, 3) := by decide +kernel
theorem d_Song_read_131 : decode M_Song_read.2.1 131 = .ok (.aload_n 0, 1) := by decide +kernel
theorem d_Song_read_132 : decode M_Song_read.2.1 132 = .ok (.getfield 15, 3) := by decide +kernel
theorem d_Song_read_135 : decode M_Song_read.2.1 135 = .ok (.iconst 1, 1) := by decide +kernel
theorem d_Song_read_136 : decode M_Song_read.2.1 136 = .ok (.isub, 1) := by decide +kernel
theorem d_Song_read_137 : decode M_Song_read.2.1 137 = .ok (.dup2, 1) := by decide +kernel
theorem d_Song_read_138 : decode M_Song_read.2.1 138 = .ok (.iaload, 1) := by decide +kernel
theorem d_Song_read_139 : decode M_Song_read.2.1 139 = .ok (.iconst 1, 1) := by decide +kernel
theorem d_Song_read_140 : decode M_Song_read.2.1 140 = .ok (.iadd, 1) := by decide +kernel
theorem d_Song_read_141 : decode M_Song_read.2.1 141 = .ok (.iastore, 1) := by decide +kernel
theorem d_Song_read_142 : decode M_Song_read.2.1 142 = .ok (.iinc 3 1, 3) := by decide +kernel
theorem d_Song_read_145 : decode M_Song_read.2.1 145 = .ok (.goto (-136), 3) := by decide +kernel
theorem d_Song_read_148 : decode M_Song_read.2.1 148 = .ok (.aload_n 0, 1) := by decide +kernel
theorem d_Song_read_149 : decode M_Song_read.2.1 149 = .ok (.getfield 15, 3) := by decide +kernel
theorem d_Song_read_152 : decode M_Song_read.2.1 152 = .ok (.ifCond .le 7, 3) := by decide +kernel
theorem d_Song_read_155 : decode M_Song_read.2.1 155 = .ok (.iconst 1, 1) := by decide +kernel
theorem d_Song_read_156 : decode M_Song_read.2.1 156 = .ok (.goto 4, 3) := by decide +kernel
theorem d_Song_read_159 : decode M_Song_read.2.1 159 = .ok (.iconst 0, 1) := by decide +kernel
theorem d_Song_read_160 : decode M_Song_read.2.1 160 = .ok (.ireturn, 1) := by decide +kernel
theorem d_Ww_songFits_0 : decode M_Ww_songFits.2.1 0 = .ok (.iload_n 1, 1) := by decide +kernel
theorem d_Ww_songFits_1 : decode M_Ww_songFits.2.1 1 = .ok (.bipush 30, 2) := by decide +kernel
theorem d_Ww_songFits_3 : decode M_Ww_songFits.2.1 3 = .ok (.invokestatic 80, 3) := by decide +kernel
theorem d_Ww_songFits_6 : decode M_Ww_songFits.2.1 6 = .ok (.ifCond .eq 44, 3) := by decide +kernel
theorem d_Ww_songFits_9 : decode M_Ww_songFits.2.1 9 = .ok (.iload_n 2, 1) := by decide +kernel
theorem d_Ww_songFits_10 : decode M_Ww_songFits.2.1 10 = .ok (.bipush 10, 2) := by decide +kernel
theorem d_Ww_songFits_12 : decode M_Ww_songFits.2.1 12 = .ok (.invokestatic 80, 3) := by decide +kernel
theorem d_Ww_songFits_15 : decode M_Ww_songFits.2.1 15 = .ok (.ifCond .eq 35, 3) := by decide +kernel
theorem d_Ww_songFits_18 : decode M_Ww_songFits.2.1 18 = .ok (.aload_n 0, 1) := by decide +kernel
theorem d_Ww_songFits_19 : decode M_Ww_songFits.2.1 19 = .ok (.getfield 76, 3) := by decide +kernel
theorem d_Ww_songFits_22 : decode M_Ww_songFits.2.1 22 = .ok (.aload_n 0, 1) := by decide +kernel
theorem d_Ww_songFits_23 : decode M_Ww_songFits.2.1 23 = .ok (.getfield 22, 3) := by decide +kernel
theorem d_Ww_songFits_26 : decode M_Ww_songFits.2.1 26 = .ok (.invokevirtual 263, 3) := by decide +kernel
theorem d_Ww_songFits_29 : decode M_Ww_songFits.2.1 29 = .ok (.ifCond .eq 21, 3) := by decide +kernel
theorem d_Ww_songFits_32 : decode M_Ww_songFits.2.1 32 = .ok (.iload_n 1, 1) := by decide +kernel
theorem d_Ww_songFits_33 : decode M_Ww_songFits.2.1 33 = .ok (.aload_n 0, 1) := by decide +kernel
theorem d_Ww_songFits_34 : decode M_Ww_songFits.2.1 34 = .ok (.getfield 76, 3) := by decide +kernel
theorem d_Ww_songFits_37 : decode M_Ww_songFits.2.1 37 = .ok (.getfield 245, 3) := by decide +kernel
theorem d_Ww_songFits_40 : decode M_Ww_songFits.2.1 40 = .ok (.iadd, 1) := by decide +kernel
theorem d_Ww_songFits_41 : decode M_Ww_songFits.2.1 41 = .ok (.bipush 30, 2) := by decide +kernel
theorem d_Ww_songFits_43 : decode M_Ww_songFits.2.1 43 = .ok (.if_icmp .gt 7, 3) := by decide +kernel
theorem d_Ww_songFits_46 : decode M_Ww_songFits.2.1 46 = .ok (.iconst 1, 1) := by decide +kernel
theorem d_Ww_songFits_47 : decode M_Ww_songFits.2.1 47 = .ok (.goto 4, 3) := by decide +kernel
theorem d_Ww_songFits_50 : decode M_Ww_songFits.2.1 50 = .ok (.iconst 0, 1) := by decide +kernel
theorem d_Ww_songFits_51 : decode M_Ww_songFits.2.1 51 = .ok (.ireturn, 1) := by decide +kernel
theorem d_Song_skyOf_0 : decode M_Song_skyOf.2.1 0 = .ok (.iload_n 1, 1) := by decide +kernel
theorem d_Song_skyOf_1 : decode M_Song_skyOf.2.1 1 = .ok (.sipush 300, 3) := by decide +kernel
theorem d_Song_skyOf_4 : decode M_Song_skyOf.2.1 4 = .ok (.invokestatic 28, 3) := by decide +kernel
theorem d_Song_skyOf_7 : decode M_Song_skyOf.2.1 7 = .ok (.ifCond .eq 17, 3) := by decide +kernel
theorem d_Song_skyOf_10 : decode M_Song_skyOf.2.1 10 = .ok (.aload_n 0, 1) := by decide +kernel
theorem d_Song_skyOf_11 : decode M_Song_skyOf.2.1 11 = .ok (.getfield 9, 3) := by decide +kernel
theorem d_Song_skyOf_14 : decode M_Song_skyOf.2.1 14 = .ok (.iload_n 1, 1) := by decide +kernel
theorem d_Song_skyOf_15 : decode M_Song_skyOf.2.1 15 = .ok (.iaload, 1) := by decide +kernel
theorem d_Song_skyOf_16 : decode M_Song_skyOf.2.1 16 = .ok (.iload_n 2, 1) := by decide +kernel
theorem d_Song_skyOf_17 : decode M_Song_skyOf.2.1 17 = .ok (.iadd, 1) := by decide +kernel
theorem d_Song_skyOf_18 : decode M_Song_skyOf.2.1 18 = .ok (.bipush 10, 2) := by decide +kernel
theorem d_Song_skyOf_20 : decode M_Song_skyOf.2.1 20 = .ok (.irem, 1) := by decide +kernel
theorem d_Song_skyOf_21 : decode M_Song_skyOf.2.1 21 = .ok (.goto 4, 3) := by decide +kernel
theorem d_Song_skyOf_24 : decode M_Song_skyOf.2.1 24 = .ok (.iconst 0, 1) := by decide +kernel
theorem d_Song_skyOf_25 : decode M_Song_skyOf.2.1 25 = .ok (.ireturn, 1) := by decide +kernel
theorem d_Ww_sing_0 : decode M_Ww_sing.2.1 0 = .ok (.aload_n 0, 1) := by decide +kernel
theorem d_Ww_sing_1 : decode M_Ww_sing.2.1 1 = .ok (.iload_n 1, 1) := by decide +kernel
theorem d_Ww_sing_2 : decode M_Ww_sing.2.1 2 = .ok (.iload_n 2, 1) := by decide +kernel
theorem d_Ww_sing_3 : decode M_Ww_sing.2.1 3 = .ok (.invokevirtual 242, 3) := by decide +kernel
theorem d_Ww_sing_6 : decode M_Ww_sing.2.1 6 = .ok (.ifCond .ne 5, 3) := by decide +kernel
theorem d_Ww_sing_9 : decode M_Ww_sing.2.1 9 = .ok (.iconst (-1), 1) := by decide +kernel
theorem d_Ww_sing_10 : decode M_Ww_sing.2.1 10 = .ok (.ireturn, 1) := by decide +kernel
theorem d_Ww_sing_11 : decode M_Ww_sing.2.1 11 = .ok (.iconst 0, 1) := by decide +kernel
theorem d_Ww_sing_12 : decode M_Ww_sing.2.1 12 = .ok (.istore_n 3, 1) := by decide +kernel
theorem d_Ww_sing_13 : decode M_Ww_sing.2.1 13 = .ok (.iload_n 3, 1) := by decide +kernel
theorem d_Ww_sing_14 : decode M_Ww_sing.2.1 14 = .ok (.aload_n 0, 1) := by decide +kernel
theorem d_Ww_sing_15 : decode M_Ww_sing.2.1 15 = .ok (.getfield 76, 3) := by decide +kernel
theorem d_Ww_sing_18 : decode M_Ww_sing.2.1 18 = .ok (.getfield 245, 3) := by decide +kernel
theorem d_Ww_sing_21 : decode M_Ww_sing.2.1 21 = .ok (.if_icmp .ge 40, 3) := by decide +kernel
theorem d_Ww_sing_24 : decode M_Ww_sing.2.1 24 = .ok (.iload_n 1, 1) := by decide +kernel
theorem d_Ww_sing_25 : decode M_Ww_sing.2.1 25 = .ok (.iload_n 3, 1) := by decide +kernel
theorem d_Ww_sing_26 : decode M_Ww_sing.2.1 26 = .ok (.iadd, 1) := by decide +kernel
theorem d_Ww_sing_27 : decode M_Ww_sing.2.1 27 = .ok (.bipush 30, 2) := by decide +kernel
theorem d_Ww_sing_29 : decode M_Ww_sing.2.1 29 = .ok (.invokestatic 80, 3) := by decide +kernel
theorem d_Ww_sing_32 : decode M_Ww_sing.2.1 32 = .ok (.ifCond .eq 29, 3) := by decide +kernel
theorem d_Ww_sing_35 : decode M_Ww_sing.2.1 35 = .ok (.aload_n 0, 1) := by decide +kernel
theorem d_Ww_sing_36 : decode M_Ww_sing.2.1 36 = .ok (.getfield 10, 3) := by decide +kernel
theorem d_Ww_sing_39 : decode M_Ww_sing.2.1 39 = .ok (.getfield 88, 3) := by decide +kernel
theorem d_Ww_sing_42 : decode M_Ww_sing.2.1 42 = .ok (.iload_n 1, 1) := by decide +kernel
theorem d_Ww_sing_43 : decode M_Ww_sing.2.1 43 = .ok (.iload_n 3, 1) := by decide +kernel
theorem d_Ww_sing_44 : decode M_Ww_sing.2.1 44 = .ok (.iadd, 1) := by decide +kernel
theorem d_Ww_sing_45 : decode M_Ww_sing.2.1 45 = .ok (.aload_n 0, 1) := by decide +kernel
theorem d_Ww_sing_46 : decode M_Ww_sing.2.1 46 = .ok (.getfield 76, 3) := by decide +kernel
theorem d_Ww_sing_49 : decode M_Ww_sing.2.1 49 = .ok (.iload_n 3, 1) := by decide +kernel
theorem d_Ww_sing_50 : decode M_Ww_sing.2.1 50 = .ok (.iload_n 2, 1) := by decide +kernel
theorem d_Ww_sing_51 : decode M_Ww_sing.2.1 51 = .ok (.invokevirtual 248, 3) := by decide +kernel
theorem d_Ww_sing_54 : decode M_Ww_sing.2.1 54 = .ok (.iastore, 1) := by decide +kernel
theorem d_Ww_sing_55 : decode M_Ww_sing.2.1 55 = .ok (.iinc 3 1, 3) := by decide +kernel
theorem d_Ww_sing_58 : decode M_Ww_sing.2.1 58 = .ok (.goto (-45), 3) := by decide +kernel
theorem d_Ww_sing_61 : decode M_Ww_sing.2.1 61 = .ok (.aload_n 0, 1) := by decide +kernel
theorem d_Ww_sing_62 : decode M_Ww_sing.2.1 62 = .ok (.getfield 22, 3) := by decide +kernel
theorem d_Ww_sing_65 : decode M_Ww_sing.2.1 65 = .ok (.iconst 0, 1) := by decide +kernel
theorem d_Ww_sing_66 : decode M_Ww_sing.2.1 66 = .ok (.putfield 107, 3) := by decide +kernel
theorem d_Ww_sing_69 : decode M_Ww_sing.2.1 69 = .ok (.aload_n 0, 1) := by decide +kernel
theorem d_Ww_sing_70 : decode M_Ww_sing.2.1 70 = .ok (.getfield 76, 3) := by decide +kernel
theorem d_Ww_sing_73 : decode M_Ww_sing.2.1 73 = .ok (.getfield 245, 3) := by decide +kernel
theorem d_Ww_sing_76 : decode M_Ww_sing.2.1 76 = .ok (.ireturn, 1) := by decide +kernel
theorem d_Ww_heard_0 : decode M_Ww_heard.2.1 0 = .ok (.aload_n 0, 1) := by decide +kernel
theorem d_Ww_heard_1 : decode M_Ww_heard.2.1 1 = .ok (.iload_n 1, 1) := by decide +kernel
theorem d_Ww_heard_2 : decode M_Ww_heard.2.1 2 = .ok (.iload_n 2, 1) := by decide +kernel
theorem d_Ww_heard_3 : decode M_Ww_heard.2.1 3 = .ok (.invokevirtual 242, 3) := by decide +kernel
theorem d_Ww_heard_6 : decode M_Ww_heard.2.1 6 = .ok (.ifCond .ne 5, 3) := by decide +kernel
theorem d_Ww_heard_9 : decode M_Ww_heard.2.1 9 = .ok (.iconst (-1), 1) := by decide +kernel
theorem d_Ww_heard_10 : decode M_Ww_heard.2.1 10 = .ok (.ireturn, 1) := by decide +kernel
theorem d_Ww_heard_11 : decode M_Ww_heard.2.1 11 = .ok (.iconst 0, 1) := by decide +kernel
theorem d_Ww_heard_12 : decode M_Ww_heard.2.1 12 = .ok (.istore_n 3, 1) := by decide +kernel
theorem d_Ww_heard_13 : decode M_Ww_heard.2.1 13 = .ok (.iconst 0, 1) := by decide +kernel
theorem d_Ww_heard_14 : decode M_Ww_heard.2.1 14 = .ok (.istore 4, 2) := by decide +kernel
theorem d_Ww_heard_16 : decode M_Ww_heard.2.1 16 = .ok (.iload 4, 2) := by decide +kernel
theorem d_Ww_heard_18 : decode M_Ww_heard.2.1 18 = .ok (.aload_n 0, 1) := by decide +kernel
theorem d_Ww_heard_19 : decode M_Ww_heard.2.1 19 = .ok (.getfield 76, 3) := by decide +kernel
theorem d_Ww_heard_22 : decode M_Ww_heard.2.1 22 = .ok (.getfield 245, 3) := by decide +kernel
theorem d_Ww_heard_25 : decode M_Ww_heard.2.1 25 = .ok (.if_icmp .ge 49, 3) := by decide +kernel
theorem d_Ww_heard_28 : decode M_Ww_heard.2.1 28 = .ok (.iload_n 1, 1) := by decide +kernel
theorem d_Ww_heard_29 : decode M_Ww_heard.2.1 29 = .ok (.iload 4, 2) := by decide +kernel
theorem d_Ww_heard_31 : decode M_Ww_heard.2.1 31 = .ok (.iadd, 1) := by decide +kernel
theorem d_Ww_heard_32 : decode M_Ww_heard.2.1 32 = .ok (.bipush 30, 2) := by decide +kernel
theorem d_Ww_heard_34 : decode M_Ww_heard.2.1 34 = .ok (.invokestatic 80, 3) := by decide +kernel
theorem d_Ww_heard_37 : decode M_Ww_heard.2.1 37 = .ok (.ifCond .eq 37, 3) := by decide +kernel
theorem d_Ww_heard_40 : decode M_Ww_heard.2.1 40 = .ok (.aload_n 0, 1) := by decide +kernel
theorem d_Ww_heard_41 : decode M_Ww_heard.2.1 41 = .ok (.getfield 10, 3) := by decide +kernel
theorem d_Ww_heard_44 : decode M_Ww_heard.2.1 44 = .ok (.getfield 88, 3) := by decide +kernel
theorem d_Ww_heard_47 : decode M_Ww_heard.2.1 47 = .ok (.iload_n 1, 1) := by decide +kernel
theorem d_Ww_heard_48 : decode M_Ww_heard.2.1 48 = .ok (.iload 4, 2) := by decide +kernel
theorem d_Ww_heard_50 : decode M_Ww_heard.2.1 50 = .ok (.iadd, 1) := by decide +kernel
theorem d_Ww_heard_51 : decode M_Ww_heard.2.1 51 = .ok (.iaload, 1) := by decide +kernel
theorem d_Ww_heard_52 : decode M_Ww_heard.2.1 52 = .ok (.aload_n 0, 1) := by decide +kernel
theorem d_Ww_heard_53 : decode M_Ww_heard.2.1 53 = .ok (.getfield 76, 3) := by decide +kernel
theorem d_Ww_heard_56 : decode M_Ww_heard.2.1 56 = .ok (.iload 4, 2) := by decide +kernel
theorem d_Ww_heard_58 : decode M_Ww_heard.2.1 58 = .ok (.iload_n 2, 1) := by decide +kernel
theorem d_Ww_heard_59 : decode M_Ww_heard.2.1 59 = .ok (.invokevirtual 248, 3) := by decide +kernel
theorem d_Ww_heard_62 : decode M_Ww_heard.2.1 62 = .ok (.if_icmp .ne 6, 3) := by decide +kernel
theorem d_Ww_heard_65 : decode M_Ww_heard.2.1 65 = .ok (.iinc 3 1, 3) := by decide +kernel
theorem d_Ww_heard_68 : decode M_Ww_heard.2.1 68 = .ok (.iinc 4 1, 3) := by decide +kernel
theorem d_Ww_heard_71 : decode M_Ww_heard.2.1 71 = .ok (.goto (-55), 3) := by decide +kernel
theorem d_Ww_heard_74 : decode M_Ww_heard.2.1 74 = .ok (.iload_n 3, 1) := by decide +kernel
theorem d_Ww_heard_75 : decode M_Ww_heard.2.1 75 = .ok (.ireturn, 1) := by decide +kernel
theorem d_Rolls_takeOver_0 : decode M_Rolls_takeOver.2.1 0 = .ok (.aload_n 1, 1) := by decide +kernel
theorem d_Rolls_takeOver_1 : decode M_Rolls_takeOver.2.1 1 = .ok (.getfield 9, 3) := by decide +kernel
theorem d_Rolls_takeOver_4 : decode M_Rolls_takeOver.2.1 4 = .ok (.iconst 0, 1) := by decide +kernel
theorem d_Rolls_takeOver_5 : decode M_Rolls_takeOver.2.1 5 = .ok (.aload_n 0, 1) := by decide +kernel
theorem d_Rolls_takeOver_6 : decode M_Rolls_takeOver.2.1 6 = .ok (.getfield 9, 3) := by decide +kernel
theorem d_Rolls_takeOver_9 : decode M_Rolls_takeOver.2.1 9 = .ok (.iconst 0, 1) := by decide +kernel
theorem d_Rolls_takeOver_10 : decode M_Rolls_takeOver.2.1 10 = .ok (.bipush 12, 2) := by decide +kernel
theorem d_Rolls_takeOver_12 : decode M_Rolls_takeOver.2.1 12 = .ok (.invokestatic 43, 3) := by decide +kernel
theorem d_Rolls_takeOver_15 : decode M_Rolls_takeOver.2.1 15 = .ok (.aload_n 1, 1) := by decide +kernel
theorem d_Rolls_takeOver_16 : decode M_Rolls_takeOver.2.1 16 = .ok (.getfield 15, 3) := by decide +kernel
theorem d_Rolls_takeOver_19 : decode M_Rolls_takeOver.2.1 19 = .ok (.iconst 0, 1) := by decide +kernel
theorem d_Rolls_takeOver_20 : decode M_Rolls_takeOver.2.1 20 = .ok (.aload_n 0, 1) := by decide +kernel
theorem d_Rolls_takeOver_21 : decode M_Rolls_takeOver.2.1 21 = .ok (.getfield 15, 3) := by decide +kernel
theorem d_Rolls_takeOver_24 : decode M_Rolls_takeOver.2.1 24 = .ok (.iconst 0, 1) := by decide +kernel
theorem d_Rolls_takeOver_25 : decode M_Rolls_takeOver.2.1 25 = .ok (.bipush 12, 2) := by decide +kernel
theorem d_Rolls_takeOver_27 : decode M_Rolls_takeOver.2.1 27 = .ok (.invokestatic 43, 3) := by decide +kernel
theorem d_Rolls_takeOver_30 : decode M_Rolls_takeOver.2.1 30 = .ok (.aload_n 1, 1) := by decide +kernel
theorem d_Rolls_takeOver_31 : decode M_Rolls_takeOver.2.1 31 = .ok (.getfield 18, 3) := by decide +kernel
theorem d_Rolls_takeOver_34 : decode M_Rolls_takeOver.2.1 34 = .ok (.iconst 0, 1) := by decide +kernel
theorem d_Rolls_takeOver_35 : decode M_Rolls_takeOver.2.1 35 = .ok (.aload_n 0, 1) := by decide +kernel
theorem d_Rolls_takeOver_36 : decode M_Rolls_takeOver.2.1 36 = .ok (.getfield 18, 3) := by decide +kernel
theorem d_Rolls_takeOver_39 : decode M_Rolls_takeOver.2.1 39 = .ok (.iconst 0, 1) := by decide +kernel
theorem d_Rolls_takeOver_40 : decode M_Rolls_takeOver.2.1 40 = .ok (.bipush 12, 2) := by decide +kernel
theorem d_Rolls_takeOver_42 : decode M_Rolls_takeOver.2.1 42 = .ok (.invokestatic 43, 3) := by decide +kernel
theorem d_Rolls_takeOver_45 : decode M_Rolls_takeOver.2.1 45 = .ok (.aload_n 1, 1) := by decide +kernel
theorem d_Rolls_takeOver_46 : decode M_Rolls_takeOver.2.1 46 = .ok (.getfield 21, 3) := by decide +kernel
theorem d_Rolls_takeOver_49 : decode M_Rolls_takeOver.2.1 49 = .ok (.iconst 0, 1) := by decide +kernel
theorem d_Rolls_takeOver_50 : decode M_Rolls_takeOver.2.1 50 = .ok (.aload_n 0, 1) := by decide +kernel
theorem d_Rolls_takeOver_51 : decode M_Rolls_takeOver.2.1 51 = .ok (.getfield 21, 3) := by decide +kernel
theorem d_Rolls_takeOver_54 : decode M_Rolls_takeOver.2.1 54 = .ok (.iconst 0, 1) := by decide +kernel
theorem d_Rolls_takeOver_55 : decode M_Rolls_takeOver.2.1 55 = .ok (.bipush 30, 2) := by decide +kernel
theorem d_Rolls_takeOver_57 : decode M_Rolls_takeOver.2.1 57 = .ok (.invokestatic 43, 3) := by decide +kernel
theorem d_Rolls_takeOver_60 : decode M_Rolls_takeOver.2.1 60 = .ok (.aload_n 1, 1) := by decide +kernel
theorem d_Rolls_takeOver_61 : decode M_Rolls_takeOver.2.1 61 = .ok (.getfield 24, 3) := by decide +kernel
theorem d_Rolls_takeOver_64 : decode M_Rolls_takeOver.2.1 64 = .ok (.iconst 0, 1) := by decide +kernel
theorem d_Rolls_takeOver_65 : decode M_Rolls_takeOver.2.1 65 = .ok (.aload_n 0, 1) := by decide +kernel
theorem d_Rolls_takeOver_66 : decode M_Rolls_takeOver.2.1 66 = .ok (.getfield 24, 3) := by decide +kernel
theorem d_Rolls_takeOver_69 : decode M_Rolls_takeOver.2.1 69 = .ok (.iconst 0, 1) := by decide +kernel
theorem d_Rolls_takeOver_70 : decode M_Rolls_takeOver.2.1 70 = .ok (.bipush 120, 2) := by decide +kernel
theorem d_Rolls_takeOver_72 : decode M_Rolls_takeOver.2.1 72 = .ok (.invokestatic 43, 3) := by decide +kernel
theorem d_Rolls_takeOver_75 : decode M_Rolls_takeOver.2.1 75 = .ok (.aload_n 1, 1) := by decide +kernel
theorem d_Rolls_takeOver_76 : decode M_Rolls_takeOver.2.1 76 = .ok (.getfield 27, 3) := by decide +kernel
theorem d_Rolls_takeOver_79 : decode M_Rolls_takeOver.2.1 79 = .ok (.iconst 0, 1) := by decide +kernel
theorem d_Rolls_takeOver_80 : decode M_Rolls_takeOver.2.1 80 = .ok (.aload_n 0, 1) := by decide +kernel
theorem d_Rolls_takeOver_81 : decode M_Rolls_takeOver.2.1 81 = .ok (.getfield 27, 3) := by decide +kernel
theorem d_Rolls_takeOver_84 : decode M_Rolls_takeOver.2.1 84 = .ok (.iconst 0, 1) := by decide +kernel
theorem d_Rolls_takeOver_85 : decode M_Rolls_takeOver.2.1 85 = .ok (.bipush 10, 2) := by decide +kernel
theorem d_Rolls_takeOver_87 : decode M_Rolls_takeOver.2.1 87 = .ok (.invokestatic 43, 3) := by decide +kernel
theorem d_Rolls_takeOver_90 : decode M_Rolls_takeOver.2.1 90 = .ok (.aload_n 1, 1) := by decide +kernel
theorem d_Rolls_takeOver_91 : decode M_Rolls_takeOver.2.1 91 = .ok (.getfield 30, 3) := by decide +kernel
theorem d_Rolls_takeOver_94 : decode M_Rolls_takeOver.2.1 94 = .ok (.iconst 0, 1) := by decide +kernel
theorem d_Rolls_takeOver_95 : decode M_Rolls_takeOver.2.1 95 = .ok (.aload_n 0, 1) := by decide +kernel
theorem d_Rolls_takeOver_96 : decode M_Rolls_takeOver.2.1 96 = .ok (.getfield 30, 3) := by decide +kernel
theorem d_Rolls_takeOver_99 : decode M_Rolls_takeOver.2.1 99 = .ok (.iconst 0, 1) := by decide +kernel
theorem d_Rolls_takeOver_100 : decode M_Rolls_takeOver.2.1 100 = .ok (.bipush 60, 2) := by decide +kernel
theorem d_Rolls_takeOver_102 : decode M_Rolls_takeOver.2.1 102 = .ok (.invokestatic 43, 3) := by decide +kernel
theorem d_Rolls_takeOver_105 : decode M_Rolls_takeOver.2.1 105 = .ok (.aload_n 0, 1) := by decide +kernel
theorem d_Rolls_takeOver_106 : decode M_Rolls_takeOver.2.1 106 = .ok (.aload_n 1, 1) := by decide +kernel
theorem d_Rolls_takeOver_107 : decode M_Rolls_takeOver.2.1 107 = .ok (.getfield 49, 3) := by decide +kernel
theorem d_Rolls_takeOver_110 : decode M_Rolls_takeOver.2.1 110 = .ok (.putfield 49, 3) := by decide +kernel
theorem d_Rolls_takeOver_113 : decode M_Rolls_takeOver.2.1 113 = .ok (.aload_n 0, 1) := by decide +kernel
theorem d_Rolls_takeOver_114 : decode M_Rolls_takeOver.2.1 114 = .ok (.aload_n 1, 1) := by decide +kernel
theorem d_Rolls_takeOver_115 : decode M_Rolls_takeOver.2.1 115 = .ok (.getfield 52, 3) := by decide +kernel
theorem d_Rolls_takeOver_118 : decode M_Rolls_takeOver.2.1 118 = .ok (.putfield 52, 3) := by decide +kernel
theorem d_Rolls_takeOver_121 : decode M_Rolls_takeOver.2.1 121 = .ok (.aload_n 0, 1) := by decide +kernel
theorem d_Rolls_takeOver_122 : decode M_Rolls_takeOver.2.1 122 = .ok (.aload_n 1, 1) := by decide +kernel
theorem d_Rolls_takeOver_123 : decode M_Rolls_takeOver.2.1 123 = .ok (.getfield 55, 3) := by decide +kernel
theorem d_Rolls_takeOver_126 : decode M_Rolls_takeOver.2.1 126 = .ok (.putfield 55, 3) := by decide +kernel
theorem d_Rolls_takeOver_129 : decode M_Rolls_takeOver.2.1 129 = .ok (.aload_n 0, 1) := by decide +kernel
theorem d_Rolls_takeOver_130 : decode M_Rolls_takeOver.2.1 130 = .ok (.aload_n 1, 1) := by decide +kernel
theorem d_Rolls_takeOver_131 : decode M_Rolls_takeOver.2.1 131 = .ok (.getfield 33, 3) := by decide +kernel
theorem d_Rolls_takeOver_134 : decode M_Rolls_takeOver.2.1 134 = .ok (.putfield 33, 3) := by decide +kernel
theorem d_Rolls_takeOver_137 : decode M_Rolls_takeOver.2.1 137 = .ok (.aload_n 0, 1) := by decide +kernel
theorem d_Rolls_takeOver_138 : decode M_Rolls_takeOver.2.1 138 = .ok (.aload_n 1, 1) := by decide +kernel
theorem d_Rolls_takeOver_139 : decode M_Rolls_takeOver.2.1 139 = .ok (.getfield 58, 3) := by decide +kernel
theorem d_Rolls_takeOver_142 : decode M_Rolls_takeOver.2.1 142 = .ok (.putfield 58, 3) := by decide +kernel
theorem d_Rolls_takeOver_145 : decode M_Rolls_takeOver.2.1 145 = .ok (.aload_n 0, 1) := by decide +kernel
theorem d_Rolls_takeOver_146 : decode M_Rolls_takeOver.2.1 146 = .ok (.aload_n 1, 1) := by decide +kernel
theorem d_Rolls_takeOver_147 : decode M_Rolls_takeOver.2.1 147 = .ok (.getfield 61, 3) := by decide +kernel
theorem d_Rolls_takeOver_150 : decode M_Rolls_takeOver.2.1 150 = .ok (.putfield 61, 3) := by decide +kernel
theorem d_Rolls_takeOver_153 : decode M_Rolls_takeOver.2.1 153 = .ok (.return_, 1) := by decide +kernel
theorem d_Ww_image_0 : decode M_Ww_image.2.1 0 = .ok (.aload_n 0, 1) := by decide +kernel
theorem d_Ww_image_1 : decode M_Ww_image.2.1 1 = .ok (.getfield 16, 3) := by decide +kernel
theorem d_Ww_image_4 : decode M_Ww_image.2.1 4 = .ok (.aload_n 0, 1) := by decide +kernel
theorem d_Ww_image_5 : decode M_Ww_image.2.1 5 = .ok (.getfield 10, 3) := by decide +kernel
theorem d_Ww_image_8 : decode M_Ww_image.2.1 8 = .ok (.invokevirtual 251, 3) := by decide +kernel
theorem d_Ww_image_11 : decode M_Ww_image.2.1 11 = .ok (.aload_n 0, 1) := by decide +kernel
theorem d_Ww_image_12 : decode M_Ww_image.2.1 12 = .ok (.getfield 10, 3) := by decide +kernel
theorem d_Ww_image_15 : decode M_Ww_image.2.1 15 = .ok (.getfield 170, 3) := by decide +kernel
theorem d_Ww_image_18 : decode M_Ww_image.2.1 18 = .ok (.ireturn, 1) := by decide +kernel
-- Planner_draw
def b_Planner_draw_18 (k18 : Int32 → Int32 → Int32 → xV → Option (xV)) (v1 : Int32) (v2 : Int32) (v4 : Int32) (V : xV) : Option (xV) := (if (V 57 7) ≤ v4 then (Option.bind (f_Rolls_lastOf v2 v1 (x2 (x2 (x2 (xfill V 59 20 (-1)) 57 8 0) 57 0 0) 57 1 0)) fun p2 => (Option.bind (f_Planner_follow 11 0 p2 0 0 (x2 (x2 (x2 (xfill V 59 20 (-1)) 57 8 0) 57 0 0) 57 1 0)) fun p4 => some p4)) else (Option.bind (f_Court_provinceGain (v2 + v4) v1 0 V) fun p6 => (if xI (2 * v4) 20 = true then (Option.bind (f_Court_provinceGain (v2 + v4) v1 1 (x2 p6.2 58 ((2 * v4).toNatClampNeg) p6.1)) fun p9 => (if xI ((2 * v4) + 1) 20 = true then k18 v1 v2 (v4 + 1) (x2 p9.2 58 (((2 * v4) + 1).toNatClampNeg) p9.1) else none)) else none)))
theorem tb_Planner_draw_18 {L : xL} (k18 : Int32 → Int32 → Int32 → xV → Option (xV)) (res : xV) (hk18 : ∀ (v1 : Int32) (v2 : Int32) (v4 : Int32) (V : xV), k18 v1 v2 v4 V = some res → X M_Planner_draw (xRm (16) M_Planner_draw) (xZ M_Planner_draw (fun o h' => o = none ∧ h' = (SH, res, L))) SH V L 0 0 18 [(0, .ref 57), (1, .int v1), (2, .int v2), (4, .int v4)] []) (v1 : Int32) (v2 : Int32) (v4 : Int32) (V : xV) (h : b_Planner_draw_18 k18 v1 v2 v4 V = some res) : X M_Planner_draw (xRm (16) M_Planner_draw) (xZ M_Planner_draw (fun o h' => o = none ∧ h' = (SH, res, L))) SH V L 0 0 18 [(0, .ref 57), (1, .int v1), (2, .int v2), (4, .int v4)] [] := by
  unfold b_Planner_draw_18 at h
  refine x_iload 3 d_Planner_draw_18 rfl ?_
  refine x_aload_n 0 d_Planner_draw_20 rfl rfl ?_
  refine x_getI f_Planner_36 sh_57 rfl d_Planner_draw_21 ?_
  refine x_icmp_ge 79 d_Planner_draw_24 (by decide) (fun c1 => ?_) (fun c1 => ?_)
  · replace h := xpos c1 h
    refine x_aload_n 0 d_Planner_draw_79 rfl rfl ?_
    refine x_getP (q := 59) f_Planner_15 sh_57 rfl d_Planner_draw_80 ?_
    refine x_iconst (-1) d_Planner_draw_83 (by decide) ?_
    refine x_fill0 li_Planner_45 (xfit_of (by omega) (Nat.le_of_ble_eq_true rfl)) (Nat.zero_le _) (Nat.zero_le _) (Nat.le_of_ble_eq_true rfl) sh_59 (Nat.le_of_ble_eq_true rfl) d_Planner_draw_84 ?_
    refine x_aload_n 0 d_Planner_draw_87 rfl rfl ?_
    refine x_iconst 0 d_Planner_draw_88 (by decide) ?_
    refine x_putI f_Planner_51 sh_57 rfl rfl rfl d_Planner_draw_89 ?_
    refine x_aload_n 0 d_Planner_draw_92 rfl rfl ?_
    refine x_iconst 0 d_Planner_draw_93 (by decide) ?_
    refine x_putI f_Planner_55 sh_57 rfl rfl rfl d_Planner_draw_94 ?_
    refine x_aload_n 0 d_Planner_draw_97 rfl rfl ?_
    refine x_iconst 0 d_Planner_draw_98 (by decide) ?_
    refine x_putI f_Planner_58 sh_57 rfl rfl rfl d_Planner_draw_99 ?_
    refine x_aload_n 0 d_Planner_draw_102 rfl rfl ?_
    refine x_iconst 0 d_Planner_draw_103 (by decide) ?_
    refine x_aload_n 0 d_Planner_draw_104 rfl rfl ?_
    refine x_getP (q := 1) f_Planner_18 sh_57 rfl d_Planner_draw_105 ?_
    refine x_iload_n 2 d_Planner_draw_108 rfl rfl ?_
    refine x_iload_n 1 d_Planner_draw_109 rfl rfl ?_
    obtain ⟨p2, e3, h⟩ := xbind h
    refine x_callV0 e_Planner_61 sh_1 rfl (t_Rolls_lastOf v2 v1 (x2 (x2 (x2 (xfill V 59 20 (-1)) 57 8 0) 57 0 0) 57 1 0) L _ e3) rfl rfl rfl (Nat.le_of_ble_eq_true rfl) (xfit_of (by omega) (Nat.le_of_ble_eq_true rfl)) (Nat.zero_le _) (Nat.zero_le _) d_Planner_draw_110 ?_
    refine x_iconst 0 d_Planner_draw_113 (by decide) ?_
    refine x_iconst 0 d_Planner_draw_114 (by decide) ?_
    obtain ⟨p4, e5, h⟩ := xbind h
    refine x_callV0v e_Planner_66 sh_57 rfl (t_Planner_follow 11 0 p2 0 0 (x2 (x2 (x2 (xfill V 59 20 (-1)) 57 8 0) 57 0 0) 57 1 0) L _ e5) rfl rfl rfl (Nat.le_of_ble_eq_true rfl) (xfit_of (by omega) (Nat.le_of_ble_eq_true rfl)) (Nat.zero_le _) (Nat.zero_le _) d_Planner_draw_115 ?_
    obtain rfl := Option.some.inj h
    exact x_return rfl d_Planner_draw_118 (Nat.le_refl _) (Nat.le_refl _) ⟨rfl, rfl⟩
  · replace h := xneg c1 h
    refine x_aload_n 0 d_Planner_draw_27 rfl rfl ?_
    refine x_getP (q := 58) f_Planner_9 sh_57 rfl d_Planner_draw_28 ?_
    refine x_iconst 2 d_Planner_draw_31 (by decide) ?_
    refine x_iload 3 d_Planner_draw_32 rfl ?_
    refine x_imul d_Planner_draw_34 ?_
    refine x_aload_n 0 d_Planner_draw_35 rfl rfl ?_
    refine x_getP (q := 51) f_Planner_22 sh_57 rfl d_Planner_draw_36 ?_
    refine x_iload_n 2 d_Planner_draw_39 rfl rfl ?_
    refine x_iload 3 d_Planner_draw_40 rfl ?_
    refine x_iadd d_Planner_draw_42 ?_
    refine x_iload_n 1 d_Planner_draw_43 rfl rfl ?_
    refine x_iconst 0 d_Planner_draw_44 (by decide) ?_
    obtain ⟨p6, e7, h⟩ := xbind h
    refine x_callV0 e_Planner_39 sh_51 rfl (t_Court_provinceGain (v2 + v4) v1 0 V L _ e7) rfl rfl rfl (Nat.le_of_ble_eq_true rfl) (xfit_of (by omega) (Nat.le_of_ble_eq_true rfl)) (Nat.zero_le _) (Nat.zero_le _) d_Planner_draw_45 ?_
    obtain ⟨c8, h⟩ := xguard h
    refine x_iastore sh_58 c8 d_Planner_draw_48 ?_
    refine x_aload_n 0 d_Planner_draw_49 rfl rfl ?_
    refine x_getP (q := 58) f_Planner_9 sh_57 rfl d_Planner_draw_50 ?_
    refine x_iconst 2 d_Planner_draw_53 (by decide) ?_
    refine x_iload 3 d_Planner_draw_54 rfl ?_
    refine x_imul d_Planner_draw_56 ?_
    refine x_iconst 1 d_Planner_draw_57 (by decide) ?_
    refine x_iadd d_Planner_draw_58 ?_
    refine x_aload_n 0 d_Planner_draw_59 rfl rfl ?_
    refine x_getP (q := 51) f_Planner_22 sh_57 rfl d_Planner_draw_60 ?_
    refine x_iload_n 2 d_Planner_draw_63 rfl rfl ?_
    refine x_iload 3 d_Planner_draw_64 rfl ?_
    refine x_iadd d_Planner_draw_66 ?_
    refine x_iload_n 1 d_Planner_draw_67 rfl rfl ?_
    refine x_iconst 1 d_Planner_draw_68 (by decide) ?_
    obtain ⟨p9, e10, h⟩ := xbind h
    refine x_callV0 e_Planner_39 sh_51 rfl (t_Court_provinceGain (v2 + v4) v1 1 (x2 p6.2 58 ((2 * v4).toNatClampNeg) p6.1) L _ e10) rfl rfl rfl (Nat.le_of_ble_eq_true rfl) (xfit_of (by omega) (Nat.le_of_ble_eq_true rfl)) (Nat.zero_le _) (Nat.zero_le _) d_Planner_draw_69 ?_
    obtain ⟨c11, h⟩ := xguard h
    refine x_iastore sh_58 c11 d_Planner_draw_72 ?_
    refine x_iinc 3 1 [(4, .int (v4 + 1)), (0, .ref 57), (1, .int v1), (2, .int v2)] d_Planner_draw_73 rfl (by decide) (Nat.le_of_ble_eq_true rfl) rfl ?_
    refine x_goto 18 d_Planner_draw_76 (by decide) ?_
    refine x_pick [1, 2, 3, 0] rfl ?_
    exact hk18 v1 v2 (v4 + 1) (x2 p9.2 58 (((2 * v4) + 1).toNatClampNeg) p9.1) h
def g_Planner_draw_18  : Nat → Int32 → Int32 → Int32 → xV → Option (xV)
  | 0, _, _, _, _ => none
  | n + 1, v1, v2, v4, V => b_Planner_draw_18 (g_Planner_draw_18  n) v1 v2 v4 V
theorem tg_Planner_draw_18 {L : xL} (res : xV)  : ∀ (n : Nat) (v1 : Int32) (v2 : Int32) (v4 : Int32) (V : xV), g_Planner_draw_18  n v1 v2 v4 V = some res → X M_Planner_draw (xRm (16) M_Planner_draw) (xZ M_Planner_draw (fun o h' => o = none ∧ h' = (SH, res, L))) SH V L 0 0 18 [(0, .ref 57), (1, .int v1), (2, .int v2), (4, .int v4)] []
  | 0, _, _, _, _, h => by cases h
  | n + 1, v1, v2, v4, V, h => tb_Planner_draw_18 (L := L) (g_Planner_draw_18  n) res (tg_Planner_draw_18 (L := L) res n) v1 v2 v4 V h
def f_Planner_draw (a1 : Int32) (a2 : Int32) (a3 : Int32) (V : xV) : Option (xV) := g_Planner_draw_18 2000 a1 a2 0 (x2 (x2 V 57 6 a2) 57 7 (xmin a3 10))
theorem t_Planner_draw (a1 : Int32) (a2 : Int32) (a3 : Int32) (V : xV) (L : xL) (res : xV) (h : f_Planner_draw a1 a2 a3 V = some res) : xRuns (16) M_Planner_draw [.ref 57, .int a1, .int a2, .int a3] (SH, V, L) (fun o h' => o = none ∧ h' = (SH, res, L)) := by
  refine xRuns_of (by decide) (Nat.le_of_ble_eq_true rfl) ?_
  unfold f_Planner_draw at h
  show X M_Planner_draw (xRm (16) M_Planner_draw) (xZ M_Planner_draw (fun o h' => o = none ∧ h' = (SH, res, L))) SH V L 0 0 0 [(0, .ref 57), (1, .int a1), (2, .int a2), (3, .int a3)] []
  refine x_aload_n 0 d_Planner_draw_0 rfl rfl ?_
  refine x_iload_n 2 d_Planner_draw_1 rfl rfl ?_
  refine x_putI f_Planner_26 sh_57 rfl rfl rfl d_Planner_draw_2 ?_
  refine x_aload_n 0 d_Planner_draw_5 rfl rfl ?_
  refine x_iload_n 3 d_Planner_draw_6 rfl rfl ?_
  refine x_bipush 10 d_Planner_draw_7 (by decide) ?_
  refine x_min0 li_Planner_30 (xlib_of (by omega)) (Nat.le_of_ble_eq_true rfl) d_Planner_draw_9 ?_
  refine x_putI f_Planner_36 sh_57 rfl rfl rfl d_Planner_draw_12 ?_
  refine x_iconst 0 d_Planner_draw_15 (by decide) ?_
  refine x_istore [(4, .int 0), (0, .ref 57), (1, .int a1), (2, .int a2), (3, .int a3)] d_Planner_draw_16 (Nat.le_of_ble_eq_true rfl) rfl ?_
  refine x_pick [1, 2, 3, 0] rfl ?_
  exact tg_Planner_draw_18 (L := L) res _ a1 a2 0 (x2 (x2 V 57 6 a2) 57 7 (xmin a3 10)) h
-- Ww_plan
def b_Ww_plan_57 (v1 : Int32) (v2 : Int32) (v3 : Int32) (v4 : Int32) (V : xV) : Option (Int32 × xV) := (Option.bind (f_Planner_draw v1 v2 v3 V) fun p11 => (if ¬ v4 = (-1) then some (((p11 57 1) >>> (v4 &&& 31)) &&& 1, p11) else some (p11 57 0, p11)))
theorem tb_Ww_plan_57 {L : xL} (res : Int32 × xV)  (v1 : Int32) (v2 : Int32) (v3 : Int32) (v4 : Int32) (V : xV) (h : b_Ww_plan_57 v1 v2 v3 v4 V = some res) : X M_Ww_plan (xRm (17) M_Ww_plan) (xZ M_Ww_plan (fun o h' => o = some (.int res.1) ∧ h' = (SH, res.2, L))) SH V L 0 0 57 [(0, .ref 0), (1, .int v1), (2, .int v2), (3, .int v3), (4, .int v4)] [] := by
  unfold b_Ww_plan_57 at h
  refine x_aload_n 0 d_Ww_plan_57 rfl rfl ?_
  refine x_getP (q := 57) f_Ww_62 sh_0 rfl d_Ww_plan_58 ?_
  refine x_iload_n 1 d_Ww_plan_61 rfl rfl ?_
  refine x_iload_n 2 d_Ww_plan_62 rfl rfl ?_
  refine x_iload_n 3 d_Ww_plan_63 rfl rfl ?_
  obtain ⟨p11, e12, h⟩ := xbind h
  refine x_callV0v e_Ww_211 sh_57 rfl (t_Planner_draw v1 v2 v3 V L _ e12) rfl rfl rfl (Nat.le_of_ble_eq_true rfl) (xfit_of (by omega) (Nat.le_of_ble_eq_true rfl)) (Nat.zero_le _) (Nat.zero_le _) d_Ww_plan_64 ?_
  refine x_iload 4 d_Ww_plan_67 rfl ?_
  refine x_iconst (-1) d_Ww_plan_69 (by decide) ?_
  refine x_icmp_ne 83 d_Ww_plan_70 (by decide) (fun c13 => ?_) (fun c13 => ?_)
  · replace h := xpos c13 h
    refine x_aload_n 0 d_Ww_plan_83 rfl rfl ?_
    refine x_getP (q := 57) f_Ww_62 sh_0 rfl d_Ww_plan_84 ?_
    refine x_getI f_Ww_218 sh_57 rfl d_Ww_plan_87 ?_
    refine x_iload 4 d_Ww_plan_90 rfl ?_
    refine x_ishr d_Ww_plan_92 ?_
    refine x_iconst 1 d_Ww_plan_93 (by decide) ?_
    refine x_iand d_Ww_plan_94 ?_
    obtain rfl := Option.some.inj h
    exact x_ireturn rfl d_Ww_plan_95 (Nat.le_refl _) (Nat.le_refl _) ⟨rfl, rfl⟩
  · replace h := xneg c13 h
    refine x_aload_n 0 d_Ww_plan_73 rfl rfl ?_
    refine x_getP (q := 57) f_Ww_62 sh_0 rfl d_Ww_plan_74 ?_
    refine x_getI f_Ww_215 sh_57 rfl d_Ww_plan_77 ?_
    refine x_goto 95 d_Ww_plan_80 (by decide) ?_
    obtain rfl := Option.some.inj h
    exact x_ireturn rfl d_Ww_plan_95 (Nat.le_refl _) (Nat.le_refl _) ⟨rfl, rfl⟩
def f_Ww_plan (a1 : Int32) (a2 : Int32) (a3 : Int32) (a4 : Int32) (V : xV) : Option (Int32 × xV) := (if (f_Ww_within a1 4) = 0 then some ((-100000000), V) else (if (f_Ww_within a2 30) = 0 then some ((-100000000), V) else (if a3 < 1 then some ((-100000000), V) else (if 10 < a3 then some ((-100000000), V) else (if (a2 + a3) ≤ 30 then (if a4 = (-1) then b_Ww_plan_57 a1 a2 a3 a4 V else (if ¬ (f_Ww_within a4 a3) = 0 then b_Ww_plan_57 a1 a2 a3 a4 V else some ((-100000000), V))) else some ((-100000000), V))))))
theorem t_Ww_plan (a1 : Int32) (a2 : Int32) (a3 : Int32) (a4 : Int32) (V : xV) (L : xL) (res : Int32 × xV) (h : f_Ww_plan a1 a2 a3 a4 V = some res) : xRuns (17) M_Ww_plan [.ref 0, .int a1, .int a2, .int a3, .int a4] (SH, V, L) (fun o h' => o = some (.int res.1) ∧ h' = (SH, res.2, L)) := by
  refine xRuns_of (by decide) (Nat.le_of_ble_eq_true rfl) ?_
  unfold f_Ww_plan at h
  show X M_Ww_plan (xRm (17) M_Ww_plan) (xZ M_Ww_plan (fun o h' => o = some (.int res.1) ∧ h' = (SH, res.2, L))) SH V L 0 0 0 [(0, .ref 0), (1, .int a1), (2, .int a2), (3, .int a3), (4, .int a4)] []
  refine x_iload_n 1 d_Ww_plan_0 rfl rfl ?_
  refine x_iconst 4 d_Ww_plan_1 (by decide) ?_
  refine x_callS0 e_Ww_80 (t_Ww_within a1 4 V L _ rfl) rfl rfl rfl (Nat.le_of_ble_eq_true rfl) (xfit_of (by omega) (Nat.le_of_ble_eq_true rfl)) (Nat.zero_le _) (Nat.zero_le _) d_Ww_plan_2 ?_
  refine x_if_eq 36 d_Ww_plan_5 (by decide) (fun c2 => ?_) (fun c2 => ?_)
  · replace h := xpos c2 h
    refine x_ldc c_Ww_189 d_Ww_plan_36 ?_
    obtain rfl := Option.some.inj h
    exact x_ireturn rfl d_Ww_plan_38 (Nat.le_refl _) (Nat.le_refl _) ⟨rfl, rfl⟩
  · replace h := xneg c2 h
    refine x_iload_n 2 d_Ww_plan_8 rfl rfl ?_
    refine x_bipush 30 d_Ww_plan_9 (by decide) ?_
    refine x_callS0 e_Ww_80 (t_Ww_within a2 30 V L _ rfl) rfl rfl rfl (Nat.le_of_ble_eq_true rfl) (xfit_of (by omega) (Nat.le_of_ble_eq_true rfl)) (Nat.zero_le _) (Nat.zero_le _) d_Ww_plan_11 ?_
    refine x_if_eq 36 d_Ww_plan_14 (by decide) (fun c4 => ?_) (fun c4 => ?_)
    · replace h := xpos c4 h
      refine x_ldc c_Ww_189 d_Ww_plan_36 ?_
      obtain rfl := Option.some.inj h
      exact x_ireturn rfl d_Ww_plan_38 (Nat.le_refl _) (Nat.le_refl _) ⟨rfl, rfl⟩
    · replace h := xneg c4 h
      refine x_iload_n 3 d_Ww_plan_17 rfl rfl ?_
      refine x_iconst 1 d_Ww_plan_18 (by decide) ?_
      refine x_icmp_lt 36 d_Ww_plan_19 (by decide) (fun c5 => ?_) (fun c5 => ?_)
      · replace h := xpos c5 h
        refine x_ldc c_Ww_189 d_Ww_plan_36 ?_
        obtain rfl := Option.some.inj h
        exact x_ireturn rfl d_Ww_plan_38 (Nat.le_refl _) (Nat.le_refl _) ⟨rfl, rfl⟩
      · replace h := xneg c5 h
        refine x_iload_n 3 d_Ww_plan_22 rfl rfl ?_
        refine x_bipush 10 d_Ww_plan_23 (by decide) ?_
        refine x_icmp_gt 36 d_Ww_plan_25 (by decide) (fun c6 => ?_) (fun c6 => ?_)
        · replace h := xpos c6 h
          refine x_ldc c_Ww_189 d_Ww_plan_36 ?_
          obtain rfl := Option.some.inj h
          exact x_ireturn rfl d_Ww_plan_38 (Nat.le_refl _) (Nat.le_refl _) ⟨rfl, rfl⟩
        · replace h := xneg c6 h
          refine x_iload_n 2 d_Ww_plan_28 rfl rfl ?_
          refine x_iload_n 3 d_Ww_plan_29 rfl rfl ?_
          refine x_iadd d_Ww_plan_30 ?_
          refine x_bipush 30 d_Ww_plan_31 (by decide) ?_
          refine x_icmp_le 39 d_Ww_plan_33 (by decide) (fun c7 => ?_) (fun c7 => ?_)
          · replace h := xpos c7 h
            refine x_iload 4 d_Ww_plan_39 rfl ?_
            refine x_iconst (-1) d_Ww_plan_41 (by decide) ?_
            refine x_icmp_eq 57 d_Ww_plan_42 (by decide) (fun c8 => ?_) (fun c8 => ?_)
            · replace h := xpos c8 h
              exact tb_Ww_plan_57 (L := L) res a1 a2 a3 a4 V h
            · replace h := xneg c8 h
              refine x_iload 4 d_Ww_plan_45 rfl ?_
              refine x_iload_n 3 d_Ww_plan_47 rfl rfl ?_
              refine x_callS0 e_Ww_80 (t_Ww_within a4 a3 V L _ rfl) rfl rfl rfl (Nat.le_of_ble_eq_true rfl) (xfit_of (by omega) (Nat.le_of_ble_eq_true rfl)) (Nat.zero_le _) (Nat.zero_le _) d_Ww_plan_48 ?_
              refine x_if_ne 57 d_Ww_plan_51 (by decide) (fun c10 => ?_) (fun c10 => ?_)
              · replace h := xpos c10 h
                exact tb_Ww_plan_57 (L := L) res a1 a2 a3 a4 V h
              · replace h := xneg c10 h
                refine x_ldc c_Ww_189 d_Ww_plan_54 ?_
                obtain rfl := Option.some.inj h
                exact x_ireturn rfl d_Ww_plan_56 (Nat.le_refl _) (Nat.le_refl _) ⟨rfl, rfl⟩
          · replace h := xneg c7 h
            refine x_ldc c_Ww_189 d_Ww_plan_36 ?_
            obtain rfl := Option.some.inj h
            exact x_ireturn rfl d_Ww_plan_38 (Nat.le_refl _) (Nat.le_refl _) ⟨rfl, rfl⟩
-- Rolls_ruleKey
def f_Rolls_ruleKey (a1 : Int32) (a2 : Int32) (V : xV) : Option (Int32) := (Option.bind (f_Rolls_lastOf a1 a2 V) fun p1 => (Option.bind (f_Rolls_seenOn a1 V) fun p3 => some ((p1 * 10) + p3)))
theorem t_Rolls_ruleKey (a1 : Int32) (a2 : Int32) (V : xV) (L : xL) (res : Int32) (h : f_Rolls_ruleKey a1 a2 V = some res) : xRuns (4) M_Rolls_ruleKey [.ref 1, .int a1, .int a2] (SH, V, L) (fun o h' => o = some (.int res) ∧ h' = (SH, V, L)) := by
  refine xRuns_of (by decide) (Nat.le_of_ble_eq_true rfl) ?_
  unfold f_Rolls_ruleKey at h
  show X M_Rolls_ruleKey (xRm (4) M_Rolls_ruleKey) (xZ M_Rolls_ruleKey (fun o h' => o = some (.int res) ∧ h' = (SH, V, L))) SH V L 0 0 0 [(0, .ref 1), (1, .int a1), (2, .int a2)] []
  refine x_aload_n 0 d_Rolls_ruleKey_0 rfl rfl ?_
  refine x_iload_n 1 d_Rolls_ruleKey_1 rfl rfl ?_
  refine x_iload_n 2 d_Rolls_ruleKey_2 rfl rfl ?_
  obtain ⟨p1, e2, h⟩ := xbind h
  refine x_callV0 e_Rolls_76 sh_1 rfl (t_Rolls_lastOf a1 a2 V L _ e2) rfl rfl rfl (Nat.le_of_ble_eq_true rfl) (xfit_of (by omega) (Nat.le_of_ble_eq_true rfl)) (Nat.zero_le _) (Nat.zero_le _) d_Rolls_ruleKey_3 ?_
  refine x_bipush 10 d_Rolls_ruleKey_6 (by decide) ?_
  refine x_imul d_Rolls_ruleKey_8 ?_
  refine x_aload_n 0 d_Rolls_ruleKey_9 rfl rfl ?_
  refine x_iload_n 1 d_Rolls_ruleKey_10 rfl rfl ?_
  obtain ⟨p3, e4, h⟩ := xbind h
  refine x_callV0 e_Rolls_79 sh_1 rfl (t_Rolls_seenOn a1 V L _ e4) rfl rfl rfl (Nat.le_of_ble_eq_true rfl) (xfit_of (by omega) (Nat.le_of_ble_eq_true rfl)) (Nat.zero_le _) (Nat.zero_le _) d_Rolls_ruleKey_11 ?_
  refine x_iadd d_Rolls_ruleKey_14 ?_
  obtain rfl := Option.some.inj h
  exact x_ireturn rfl d_Rolls_ruleKey_15 (Nat.le_refl _) (Nat.le_refl _) ⟨rfl, rfl⟩
-- Ww_found
def b_Ww_found_29 (V : xV) (k20 : Int32 → Int32 → Int32 → Option (Int32)) (k29 : Int32 → Int32 → Int32 → Int32 → Option (Int32)) (v1 : Int32) (v2 : Int32) (v3 : Int32) (v4 : Int32) : Option (Int32) := (if v3 ≤ v4 then k20 v1 v2 (v3 + 1) else (Option.bind (f_Rolls_ruleKey v3 v1 V) fun p7 => (Option.bind (f_Rolls_ruleKey v4 v1 V) fun p9 => (if ¬ p7 = p9 then k29 v1 v2 v3 (v4 + 1) else (Option.bind (f_Rolls_decreeOf v3 v1 V) fun p12 => (Option.bind (f_Rolls_decreeOf v4 v1 V) fun p14 => (if p12 = p14 then k29 v1 v2 v3 (v4 + 1) else (if ¬ v2 = 0 then some v4 else some v3))))))))
theorem tb_Ww_found_29 {V : xV} {L : xL} (k20 : Int32 → Int32 → Int32 → Option (Int32)) (k29 : Int32 → Int32 → Int32 → Int32 → Option (Int32)) (res : Int32) (hk20 : ∀ (v1 : Int32) (v2 : Int32) (v3 : Int32), k20 v1 v2 v3 = some res → X M_Ww_found (xRm (5) M_Ww_found) (xZ M_Ww_found (fun o h' => o = some (.int res) ∧ h' = (SH, V, L))) SH V L 0 0 20 [(0, .ref 0), (1, .int v1), (2, .int v2), (3, .int v3)] []) (hk29 : ∀ (v1 : Int32) (v2 : Int32) (v3 : Int32) (v4 : Int32), k29 v1 v2 v3 v4 = some res → X M_Ww_found (xRm (5) M_Ww_found) (xZ M_Ww_found (fun o h' => o = some (.int res) ∧ h' = (SH, V, L))) SH V L 0 0 29 [(0, .ref 0), (1, .int v1), (2, .int v2), (3, .int v3), (4, .int v4)] []) (v1 : Int32) (v2 : Int32) (v3 : Int32) (v4 : Int32) (h : b_Ww_found_29 V k20 k29 v1 v2 v3 v4 = some res) : X M_Ww_found (xRm (5) M_Ww_found) (xZ M_Ww_found (fun o h' => o = some (.int res) ∧ h' = (SH, V, L))) SH V L 0 0 29 [(0, .ref 0), (1, .int v1), (2, .int v2), (3, .int v3), (4, .int v4)] [] := by
  unfold b_Ww_found_29 at h
  refine x_iload 4 d_Ww_found_29 rfl ?_
  refine x_iload_n 3 d_Ww_found_31 rfl rfl ?_
  refine x_icmp_ge 96 d_Ww_found_32 (by decide) (fun c6 => ?_) (fun c6 => ?_)
  · replace h := xpos c6 h
    refine x_iinc 3 1 [(3, .int (v3 + 1)), (0, .ref 0), (1, .int v1), (2, .int v2), (4, .int v4)] d_Ww_found_96 rfl (by decide) (Nat.le_of_ble_eq_true rfl) rfl ?_
    refine x_goto 20 d_Ww_found_99 (by decide) ?_
    refine x_pick [1, 2, 3, 0] rfl ?_
    exact hk20 v1 v2 (v3 + 1) h
  · replace h := xneg c6 h
    refine x_aload_n 0 d_Ww_found_35 rfl rfl ?_
    refine x_getP (q := 1) f_Ww_10 sh_0 rfl d_Ww_found_36 ?_
    refine x_iload_n 3 d_Ww_found_39 rfl rfl ?_
    refine x_iload_n 1 d_Ww_found_40 rfl rfl ?_
    obtain ⟨p7, e8, h⟩ := xbind h
    refine x_callV0 e_Ww_221 sh_1 rfl (t_Rolls_ruleKey v3 v1 V L _ e8) rfl rfl rfl (Nat.le_of_ble_eq_true rfl) (xfit_of (by omega) (Nat.le_of_ble_eq_true rfl)) (Nat.zero_le _) (Nat.zero_le _) d_Ww_found_41 ?_
    refine x_aload_n 0 d_Ww_found_44 rfl rfl ?_
    refine x_getP (q := 1) f_Ww_10 sh_0 rfl d_Ww_found_45 ?_
    refine x_iload 4 d_Ww_found_48 rfl ?_
    refine x_iload_n 1 d_Ww_found_50 rfl rfl ?_
    obtain ⟨p9, e10, h⟩ := xbind h
    refine x_callV0 e_Ww_221 sh_1 rfl (t_Rolls_ruleKey v4 v1 V L _ e10) rfl rfl rfl (Nat.le_of_ble_eq_true rfl) (xfit_of (by omega) (Nat.le_of_ble_eq_true rfl)) (Nat.zero_le _) (Nat.zero_le _) d_Ww_found_51 ?_
    refine x_icmp_ne 90 d_Ww_found_54 (by decide) (fun c11 => ?_) (fun c11 => ?_)
    · replace h := xpos c11 h
      refine x_iinc 4 1 [(4, .int (v4 + 1)), (0, .ref 0), (1, .int v1), (2, .int v2), (3, .int v3)] d_Ww_found_90 rfl (by decide) (Nat.le_of_ble_eq_true rfl) rfl ?_
      refine x_goto 29 d_Ww_found_93 (by decide) ?_
      refine x_pick [1, 2, 3, 4, 0] rfl ?_
      exact hk29 v1 v2 v3 (v4 + 1) h
    · replace h := xneg c11 h
      refine x_aload_n 0 d_Ww_found_57 rfl rfl ?_
      refine x_getP (q := 1) f_Ww_10 sh_0 rfl d_Ww_found_58 ?_
      refine x_iload_n 3 d_Ww_found_61 rfl rfl ?_
      refine x_iload_n 1 d_Ww_found_62 rfl rfl ?_
      obtain ⟨p12, e13, h⟩ := xbind h
      refine x_callV0 e_Ww_160 sh_1 rfl (t_Rolls_decreeOf v3 v1 V L _ e13) rfl rfl rfl (Nat.le_of_ble_eq_true rfl) (xfit_of (by omega) (Nat.le_of_ble_eq_true rfl)) (Nat.zero_le _) (Nat.zero_le _) d_Ww_found_63 ?_
      refine x_aload_n 0 d_Ww_found_66 rfl rfl ?_
      refine x_getP (q := 1) f_Ww_10 sh_0 rfl d_Ww_found_67 ?_
      refine x_iload 4 d_Ww_found_70 rfl ?_
      refine x_iload_n 1 d_Ww_found_72 rfl rfl ?_
      obtain ⟨p14, e15, h⟩ := xbind h
      refine x_callV0 e_Ww_160 sh_1 rfl (t_Rolls_decreeOf v4 v1 V L _ e15) rfl rfl rfl (Nat.le_of_ble_eq_true rfl) (xfit_of (by omega) (Nat.le_of_ble_eq_true rfl)) (Nat.zero_le _) (Nat.zero_le _) d_Ww_found_73 ?_
      refine x_icmp_eq 90 d_Ww_found_76 (by decide) (fun c16 => ?_) (fun c16 => ?_)
      · replace h := xpos c16 h
        refine x_iinc 4 1 [(4, .int (v4 + 1)), (0, .ref 0), (1, .int v1), (2, .int v2), (3, .int v3)] d_Ww_found_90 rfl (by decide) (Nat.le_of_ble_eq_true rfl) rfl ?_
        refine x_goto 29 d_Ww_found_93 (by decide) ?_
        refine x_pick [1, 2, 3, 4, 0] rfl ?_
        exact hk29 v1 v2 v3 (v4 + 1) h
      · replace h := xneg c16 h
        refine x_iload_n 2 d_Ww_found_79 rfl rfl ?_
        refine x_if_ne 87 d_Ww_found_80 (by decide) (fun c17 => ?_) (fun c17 => ?_)
        · replace h := xpos c17 h
          refine x_iload 4 d_Ww_found_87 rfl ?_
          obtain rfl := Option.some.inj h
          exact x_ireturn rfl d_Ww_found_89 (Nat.le_refl _) (Nat.le_refl _) ⟨rfl, rfl⟩
        · replace h := xneg c17 h
          refine x_iload_n 3 d_Ww_found_83 rfl rfl ?_
          refine x_goto 89 d_Ww_found_84 (by decide) ?_
          obtain rfl := Option.some.inj h
          exact x_ireturn rfl d_Ww_found_89 (Nat.le_refl _) (Nat.le_refl _) ⟨rfl, rfl⟩
def g_Ww_found_29 (V : xV) (k20 : Int32 → Int32 → Int32 → Option (Int32)) : Nat → Int32 → Int32 → Int32 → Int32 → Option (Int32)
  | 0, _, _, _, _ => none
  | n + 1, v1, v2, v3, v4 => b_Ww_found_29 V k20 (g_Ww_found_29 V k20 n) v1 v2 v3 v4
theorem tg_Ww_found_29 {V : xV} {L : xL} (k20 : Int32 → Int32 → Int32 → Option (Int32)) (res : Int32) (hk20 : ∀ (v1 : Int32) (v2 : Int32) (v3 : Int32), k20 v1 v2 v3 = some res → X M_Ww_found (xRm (5) M_Ww_found) (xZ M_Ww_found (fun o h' => o = some (.int res) ∧ h' = (SH, V, L))) SH V L 0 0 20 [(0, .ref 0), (1, .int v1), (2, .int v2), (3, .int v3)] []) : ∀ (n : Nat) (v1 : Int32) (v2 : Int32) (v3 : Int32) (v4 : Int32), g_Ww_found_29 V k20 n v1 v2 v3 v4 = some res → X M_Ww_found (xRm (5) M_Ww_found) (xZ M_Ww_found (fun o h' => o = some (.int res) ∧ h' = (SH, V, L))) SH V L 0 0 29 [(0, .ref 0), (1, .int v1), (2, .int v2), (3, .int v3), (4, .int v4)] []
  | 0, _, _, _, _, h => by cases h
  | n + 1, v1, v2, v3, v4, h => tb_Ww_found_29 (V := V) (L := L) k20 (g_Ww_found_29 V k20 n) res hk20 (tg_Ww_found_29 (V := V) (L := L) k20 res hk20 n) v1 v2 v3 v4 h
def b_Ww_found_20 (V : xV) (k20 : Int32 → Int32 → Int32 → Option (Int32)) (v1 : Int32) (v2 : Int32) (v3 : Int32) : Option (Int32) := (if 30 ≤ v3 then some (-1) else g_Ww_found_29 V k20 2000 v1 v2 v3 0)
theorem tb_Ww_found_20 {V : xV} {L : xL} (k20 : Int32 → Int32 → Int32 → Option (Int32)) (res : Int32) (hk20 : ∀ (v1 : Int32) (v2 : Int32) (v3 : Int32), k20 v1 v2 v3 = some res → X M_Ww_found (xRm (5) M_Ww_found) (xZ M_Ww_found (fun o h' => o = some (.int res) ∧ h' = (SH, V, L))) SH V L 0 0 20 [(0, .ref 0), (1, .int v1), (2, .int v2), (3, .int v3)] []) (v1 : Int32) (v2 : Int32) (v3 : Int32) (h : b_Ww_found_20 V k20 v1 v2 v3 = some res) : X M_Ww_found (xRm (5) M_Ww_found) (xZ M_Ww_found (fun o h' => o = some (.int res) ∧ h' = (SH, V, L))) SH V L 0 0 20 [(0, .ref 0), (1, .int v1), (2, .int v2), (3, .int v3)] [] := by
  unfold b_Ww_found_20 at h
  refine x_iload_n 3 d_Ww_found_20 rfl rfl ?_
  refine x_bipush 30 d_Ww_found_21 (by decide) ?_
  refine x_icmp_ge 102 d_Ww_found_23 (by decide) (fun c5 => ?_) (fun c5 => ?_)
  · replace h := xpos c5 h
    refine x_iconst (-1) d_Ww_found_102 (by decide) ?_
    obtain rfl := Option.some.inj h
    exact x_ireturn rfl d_Ww_found_103 (Nat.le_refl _) (Nat.le_refl _) ⟨rfl, rfl⟩
  · replace h := xneg c5 h
    refine x_iconst 0 d_Ww_found_26 (by decide) ?_
    refine x_istore [(4, .int 0), (0, .ref 0), (1, .int v1), (2, .int v2), (3, .int v3)] d_Ww_found_27 (Nat.le_of_ble_eq_true rfl) rfl ?_
    refine x_pick [1, 2, 3, 4, 0] rfl ?_
    exact tg_Ww_found_29 (V := V) (L := L) k20 res hk20 _ v1 v2 v3 0 h
def g_Ww_found_20 (V : xV) : Nat → Int32 → Int32 → Int32 → Option (Int32)
  | 0, _, _, _ => none
  | n + 1, v1, v2, v3 => b_Ww_found_20 V (g_Ww_found_20 V n) v1 v2 v3
theorem tg_Ww_found_20 {V : xV} {L : xL} (res : Int32)  : ∀ (n : Nat) (v1 : Int32) (v2 : Int32) (v3 : Int32), g_Ww_found_20 V n v1 v2 v3 = some res → X M_Ww_found (xRm (5) M_Ww_found) (xZ M_Ww_found (fun o h' => o = some (.int res) ∧ h' = (SH, V, L))) SH V L 0 0 20 [(0, .ref 0), (1, .int v1), (2, .int v2), (3, .int v3)] []
  | 0, _, _, _, h => by cases h
  | n + 1, v1, v2, v3, h => tb_Ww_found_20 (V := V) (L := L) (g_Ww_found_20 V n) res (tg_Ww_found_20 (V := V) (L := L) res n) v1 v2 v3 h
def f_Ww_found (a1 : Int32) (a2 : Int32) (V : xV) : Option (Int32) := (if (f_Ww_within a1 4) = 0 then some (-1) else (if ¬ (f_Ww_within a2 2) = 0 then g_Ww_found_20 V 2000 a1 a2 1 else some (-1)))
theorem t_Ww_found (a1 : Int32) (a2 : Int32) (V : xV) (L : xL) (res : Int32) (h : f_Ww_found a1 a2 V = some res) : xRuns (5) M_Ww_found [.ref 0, .int a1, .int a2] (SH, V, L) (fun o h' => o = some (.int res) ∧ h' = (SH, V, L)) := by
  refine xRuns_of (by decide) (Nat.le_of_ble_eq_true rfl) ?_
  unfold f_Ww_found at h
  show X M_Ww_found (xRm (5) M_Ww_found) (xZ M_Ww_found (fun o h' => o = some (.int res) ∧ h' = (SH, V, L))) SH V L 0 0 0 [(0, .ref 0), (1, .int a1), (2, .int a2)] []
  refine x_iload_n 1 d_Ww_found_0 rfl rfl ?_
  refine x_iconst 4 d_Ww_found_1 (by decide) ?_
  refine x_callS0 e_Ww_80 (t_Ww_within a1 4 V L _ rfl) rfl rfl rfl (Nat.le_of_ble_eq_true rfl) (xfit_of (by omega) (Nat.le_of_ble_eq_true rfl)) (Nat.zero_le _) (Nat.zero_le _) d_Ww_found_2 ?_
  refine x_if_eq 16 d_Ww_found_5 (by decide) (fun c2 => ?_) (fun c2 => ?_)
  · replace h := xpos c2 h
    refine x_iconst (-1) d_Ww_found_16 (by decide) ?_
    obtain rfl := Option.some.inj h
    exact x_ireturn rfl d_Ww_found_17 (Nat.le_refl _) (Nat.le_refl _) ⟨rfl, rfl⟩
  · replace h := xneg c2 h
    refine x_iload_n 2 d_Ww_found_8 rfl rfl ?_
    refine x_iconst 2 d_Ww_found_9 (by decide) ?_
    refine x_callS0 e_Ww_80 (t_Ww_within a2 2 V L _ rfl) rfl rfl rfl (Nat.le_of_ble_eq_true rfl) (xfit_of (by omega) (Nat.le_of_ble_eq_true rfl)) (Nat.zero_le _) (Nat.zero_le _) d_Ww_found_10 ?_
    refine x_if_ne 18 d_Ww_found_13 (by decide) (fun c4 => ?_) (fun c4 => ?_)
    · replace h := xpos c4 h
      refine x_iconst 1 d_Ww_found_18 (by decide) ?_
      refine x_istore_n [(3, .int 1), (0, .ref 0), (1, .int a1), (2, .int a2)] d_Ww_found_19 rfl (Nat.le_of_ble_eq_true rfl) rfl ?_
      refine x_pick [1, 2, 3, 0] rfl ?_
      exact tg_Ww_found_20 (V := V) (L := L) res _ a1 a2 1 h
    · replace h := xneg c4 h
      refine x_iconst (-1) d_Ww_found_16 (by decide) ?_
      obtain rfl := Option.some.inj h
      exact x_ireturn rfl d_Ww_found_17 (Nat.le_refl _) (Nat.le_refl _) ⟨rfl, rfl⟩
-- Court_tollFor
def f_Court_tollFor (a1 : Int32) (a2 : Int32) (a3 : Int32) (a4 : Int32) (V : xV) : Option (Int32 × xV) := (Option.bind (f_Bench_tell 9 a1 V) fun p1 => (Option.bind (f_Bench_tell 10 a2 p1) fun p3 => (Option.bind (f_Bench_tell 20 a3 p3) fun p5 => (Option.bind (f_Bench_tell 21 a4 p5) fun p7 => (Option.bind (f_Court_comesTo 5 p7) fun p9 => some ((f_Ww_between p9.1 (-999) 999), p9.2))))))
theorem t_Court_tollFor (a1 : Int32) (a2 : Int32) (a3 : Int32) (a4 : Int32) (V : xV) (L : xL) (res : Int32 × xV) (h : f_Court_tollFor a1 a2 a3 a4 V = some res) : xRuns (4) M_Court_tollFor [.ref 51, .int a1, .int a2, .int a3, .int a4] (SH, V, L) (fun o h' => o = some (.int res.1) ∧ h' = (SH, res.2, L)) := by
  refine xRuns_of (by decide) (Nat.le_of_ble_eq_true rfl) ?_
  unfold f_Court_tollFor at h
  show X M_Court_tollFor (xRm (4) M_Court_tollFor) (xZ M_Court_tollFor (fun o h' => o = some (.int res.1) ∧ h' = (SH, res.2, L))) SH V L 0 0 0 [(0, .ref 51), (1, .int a1), (2, .int a2), (3, .int a3), (4, .int a4)] []
  refine x_aload_n 0 d_Court_tollFor_0 rfl rfl ?_
  refine x_getP (q := 52) f_Court_18 sh_51 rfl d_Court_tollFor_1 ?_
  refine x_bipush 9 d_Court_tollFor_4 (by decide) ?_
  refine x_iload_n 1 d_Court_tollFor_6 rfl rfl ?_
  obtain ⟨p1, e2, h⟩ := xbind h
  refine x_callV0v e_Court_60 sh_52 rfl (t_Bench_tell 9 a1 V L _ e2) rfl rfl rfl (Nat.le_of_ble_eq_true rfl) (xfit_of (by omega) (Nat.le_of_ble_eq_true rfl)) (Nat.zero_le _) (Nat.zero_le _) d_Court_tollFor_7 ?_
  refine x_aload_n 0 d_Court_tollFor_10 rfl rfl ?_
  refine x_getP (q := 52) f_Court_18 sh_51 rfl d_Court_tollFor_11 ?_
  refine x_bipush 10 d_Court_tollFor_14 (by decide) ?_
  refine x_iload_n 2 d_Court_tollFor_16 rfl rfl ?_
  obtain ⟨p3, e4, h⟩ := xbind h
  refine x_callV0v e_Court_60 sh_52 rfl (t_Bench_tell 10 a2 p1 L _ e4) rfl rfl rfl (Nat.le_of_ble_eq_true rfl) (xfit_of (by omega) (Nat.le_of_ble_eq_true rfl)) (Nat.zero_le _) (Nat.zero_le _) d_Court_tollFor_17 ?_
  refine x_aload_n 0 d_Court_tollFor_20 rfl rfl ?_
  refine x_getP (q := 52) f_Court_18 sh_51 rfl d_Court_tollFor_21 ?_
  refine x_bipush 20 d_Court_tollFor_24 (by decide) ?_
  refine x_iload_n 3 d_Court_tollFor_26 rfl rfl ?_
  obtain ⟨p5, e6, h⟩ := xbind h
  refine x_callV0v e_Court_60 sh_52 rfl (t_Bench_tell 20 a3 p3 L _ e6) rfl rfl rfl (Nat.le_of_ble_eq_true rfl) (xfit_of (by omega) (Nat.le_of_ble_eq_true rfl)) (Nat.zero_le _) (Nat.zero_le _) d_Court_tollFor_27 ?_
  refine x_aload_n 0 d_Court_tollFor_30 rfl rfl ?_
  refine x_getP (q := 52) f_Court_18 sh_51 rfl d_Court_tollFor_31 ?_
  refine x_bipush 21 d_Court_tollFor_34 (by decide) ?_
  refine x_iload 4 d_Court_tollFor_36 rfl ?_
  obtain ⟨p7, e8, h⟩ := xbind h
  refine x_callV0v e_Court_60 sh_52 rfl (t_Bench_tell 21 a4 p5 L _ e8) rfl rfl rfl (Nat.le_of_ble_eq_true rfl) (xfit_of (by omega) (Nat.le_of_ble_eq_true rfl)) (Nat.zero_le _) (Nat.zero_le _) d_Court_tollFor_38 ?_
  refine x_aload_n 0 d_Court_tollFor_41 rfl rfl ?_
  refine x_iconst 5 d_Court_tollFor_42 (by decide) ?_
  obtain ⟨p9, e10, h⟩ := xbind h
  refine x_callV0 e_Court_77 sh_51 rfl (t_Court_comesTo 5 p7 L _ e10) rfl rfl rfl (Nat.le_of_ble_eq_true rfl) (xfit_of (by omega) (Nat.le_of_ble_eq_true rfl)) (Nat.zero_le _) (Nat.zero_le _) d_Court_tollFor_43 ?_
  refine x_sipush (-999) d_Court_tollFor_46 (by decide) ?_
  refine x_sipush 999 d_Court_tollFor_49 (by decide) ?_
  refine x_callSN0 e_Court_84 (t_Ww_between p9.1 (-999) 999 p9.2 L _ rfl) rfl rfl rfl (Nat.le_of_ble_eq_true rfl) (xfit_of (by omega) (Nat.le_of_ble_eq_true rfl)) (Nat.zero_le _) (Nat.zero_le _) d_Court_tollFor_52 ?_
  obtain rfl := Option.some.inj h
  exact x_ireturn rfl d_Court_tollFor_55 (Nat.le_refl _) (Nat.le_refl _) ⟨rfl, rfl⟩
-- Council_weigh
def b_Council_weigh_39 (k39 : Int32 → Int32 → xV → Option (xV)) (v1 : Int32) (v2 : Int32) (V : xV) : Option (xV) := (if 32 ≤ v2 then some V else (Option.bind (f_Court_tollFor v1 ((v2 / 4) / 2) (xrem (v2 / 4) 2) (xrem v2 4) V) fun p6 => (if xI v2 32 = true then k39 v1 (v2 + 1) (x2 p6.2 62 v2.toNatClampNeg p6.1) else none)))
theorem tb_Council_weigh_39 {L : xL} (k39 : Int32 → Int32 → xV → Option (xV)) (res : xV) (hk39 : ∀ (v1 : Int32) (v2 : Int32) (V : xV), k39 v1 v2 V = some res → X M_Council_weigh (xRm (7) M_Council_weigh) (xZ M_Council_weigh (fun o h' => o = none ∧ h' = (SH, res, L))) SH V L 0 0 39 [(0, .ref 60), (1, .int v1), (2, .int v2)] []) (v1 : Int32) (v2 : Int32) (V : xV) (h : b_Council_weigh_39 k39 v1 v2 V = some res) : X M_Council_weigh (xRm (7) M_Council_weigh) (xZ M_Council_weigh (fun o h' => o = none ∧ h' = (SH, res, L))) SH V L 0 0 39 [(0, .ref 60), (1, .int v1), (2, .int v2)] [] := by
  unfold b_Council_weigh_39 at h
  refine x_iload_n 2 d_Council_weigh_39 rfl rfl ?_
  refine x_aload_n 0 d_Council_weigh_40 rfl rfl ?_
  refine x_getP (q := 62) f_Council_15 sh_60 rfl d_Council_weigh_41 ?_
  refine x_alen 32 sh_62 (by decide) (by decide) d_Council_weigh_44 ?_
  refine x_icmp_ge 81 d_Council_weigh_45 (by decide) (fun c5 => ?_) (fun c5 => ?_)
  · replace h := xpos c5 h
    obtain rfl := Option.some.inj h
    exact x_return rfl d_Council_weigh_81 (Nat.le_refl _) (Nat.le_refl _) ⟨rfl, rfl⟩
  · replace h := xneg c5 h
    refine x_iload_n 2 d_Council_weigh_48 rfl rfl ?_
    refine x_iconst 4 d_Council_weigh_49 (by decide) ?_
    refine x_idiv d_Council_weigh_50 (by decide) ?_
    refine x_istore_n [(3, .int (v2 / 4)), (0, .ref 60), (1, .int v1), (2, .int v2)] d_Council_weigh_51 rfl (Nat.le_of_ble_eq_true rfl) rfl ?_
    refine x_aload_n 1 d_Council_weigh_52 rfl rfl ?_
    refine x_getP (q := 62) f_Council_15 sh_60 rfl d_Council_weigh_53 ?_
    refine x_iload_n 3 d_Council_weigh_56 rfl rfl ?_
    refine x_aload_n 1 d_Council_weigh_57 rfl rfl ?_
    refine x_getP (q := 51) f_Council_22 sh_60 rfl d_Council_weigh_58 ?_
    refine x_iload_n 2 d_Council_weigh_61 rfl rfl ?_
    refine x_iload_n 0 d_Council_weigh_62 rfl rfl ?_
    refine x_iconst 2 d_Council_weigh_63 (by decide) ?_
    refine x_idiv d_Council_weigh_64 (by decide) ?_
    refine x_iload_n 0 d_Council_weigh_65 rfl rfl ?_
    refine x_iconst 2 d_Council_weigh_66 (by decide) ?_
    refine x_irem2 d_Council_weigh_67 (by decide) ?_
    refine x_iload_n 3 d_Council_weigh_68 rfl rfl ?_
    refine x_iconst 4 d_Council_weigh_69 (by decide) ?_
    refine x_irem2 d_Council_weigh_70 (by decide) ?_
    obtain ⟨p6, e7, h⟩ := xbind h
    refine x_callV0 e_Council_32 sh_51 rfl (t_Court_tollFor v1 ((v2 / 4) / 2) (xrem (v2 / 4) 2) (xrem v2 4) V L _ e7) rfl rfl rfl (Nat.le_of_ble_eq_true rfl) (xfit_of (by omega) (Nat.le_of_ble_eq_true rfl)) (Nat.zero_le _) (Nat.zero_le _) d_Council_weigh_71 ?_
    obtain ⟨c8, h⟩ := xguard h
    refine x_iastore sh_62 c8 d_Council_weigh_74 ?_
    refine x_iinc 3 1 [(2, .int (v2 + 1)), (3, .int (v2 / 4)), (0, .ref 60), (1, .int v1)] d_Council_weigh_75 rfl (by decide) (Nat.le_of_ble_eq_true rfl) rfl ?_
    refine x_goto 39 d_Council_weigh_78 (by decide) ?_
    refine x_pick [2, 3, 0] rfl ?_
    exact hk39 v1 (v2 + 1) (x2 p6.2 62 v2.toNatClampNeg p6.1) h
def g_Council_weigh_39  : Nat → Int32 → Int32 → xV → Option (xV)
  | 0, _, _, _ => none
  | n + 1, v1, v2, V => b_Council_weigh_39 (g_Council_weigh_39  n) v1 v2 V
theorem tg_Council_weigh_39 {L : xL} (res : xV)  : ∀ (n : Nat) (v1 : Int32) (v2 : Int32) (V : xV), g_Council_weigh_39  n v1 v2 V = some res → X M_Council_weigh (xRm (7) M_Council_weigh) (xZ M_Council_weigh (fun o h' => o = none ∧ h' = (SH, res, L))) SH V L 0 0 39 [(0, .ref 60), (1, .int v1), (2, .int v2)] []
  | 0, _, _, _, h => by cases h
  | n + 1, v1, v2, V, h => tb_Council_weigh_39 (L := L) (g_Council_weigh_39  n) res (tg_Council_weigh_39 (L := L) res n) v1 v2 V h
def b_Council_weigh_2 (k2 : Int32 → Int32 → xV → Option (xV)) (v1 : Int32) (v2 : Int32) (V : xV) : Option (xV) := (if 8 ≤ v2 then g_Council_weigh_39 2000 v1 0 V else (Option.bind (f_Court_provinceGain v1 (v2 / 2) (xrem v2 2) V) fun p2 => (if xI v2 8 = true then k2 v1 (v2 + 1) (x2 p2.2 61 v2.toNatClampNeg p2.1) else none)))
theorem tb_Council_weigh_2 {L : xL} (k2 : Int32 → Int32 → xV → Option (xV)) (res : xV) (hk2 : ∀ (v1 : Int32) (v2 : Int32) (V : xV), k2 v1 v2 V = some res → X M_Council_weigh (xRm (7) M_Council_weigh) (xZ M_Council_weigh (fun o h' => o = none ∧ h' = (SH, res, L))) SH V L 0 0 2 [(0, .ref 60), (1, .int v1), (2, .int v2)] []) (v1 : Int32) (v2 : Int32) (V : xV) (h : b_Council_weigh_2 k2 v1 v2 V = some res) : X M_Council_weigh (xRm (7) M_Council_weigh) (xZ M_Council_weigh (fun o h' => o = none ∧ h' = (SH, res, L))) SH V L 0 0 2 [(0, .ref 60), (1, .int v1), (2, .int v2)] [] := by
  unfold b_Council_weigh_2 at h
  refine x_iload_n 2 d_Council_weigh_2 rfl rfl ?_
  refine x_aload_n 0 d_Council_weigh_3 rfl rfl ?_
  refine x_getP (q := 61) f_Council_9 sh_60 rfl d_Council_weigh_4 ?_
  refine x_alen 8 sh_61 (by decide) (by decide) d_Council_weigh_7 ?_
  refine x_icmp_ge 37 d_Council_weigh_8 (by decide) (fun c1 => ?_) (fun c1 => ?_)
  · replace h := xpos c1 h
    refine x_iconst 0 d_Council_weigh_37 (by decide) ?_
    refine x_istore_n [(2, .int 0), (0, .ref 60), (1, .int v1)] d_Council_weigh_38 rfl (Nat.le_of_ble_eq_true rfl) rfl ?_
    refine x_pick [1, 2, 0] rfl ?_
    exact tg_Council_weigh_39 (L := L) res _ v1 0 V h
  · replace h := xneg c1 h
    refine x_aload_n 0 d_Council_weigh_11 rfl rfl ?_
    refine x_getP (q := 61) f_Council_9 sh_60 rfl d_Council_weigh_12 ?_
    refine x_iload_n 2 d_Council_weigh_15 rfl rfl ?_
    refine x_aload_n 0 d_Council_weigh_16 rfl rfl ?_
    refine x_getP (q := 51) f_Council_22 sh_60 rfl d_Council_weigh_17 ?_
    refine x_iload_n 1 d_Council_weigh_20 rfl rfl ?_
    refine x_iload_n 2 d_Council_weigh_21 rfl rfl ?_
    refine x_iconst 2 d_Council_weigh_22 (by decide) ?_
    refine x_idiv d_Council_weigh_23 (by decide) ?_
    refine x_iload_n 2 d_Council_weigh_24 rfl rfl ?_
    refine x_iconst 2 d_Council_weigh_25 (by decide) ?_
    refine x_irem2 d_Council_weigh_26 (by decide) ?_
    obtain ⟨p2, e3, h⟩ := xbind h
    refine x_callV0 e_Council_26 sh_51 rfl (t_Court_provinceGain v1 (v2 / 2) (xrem v2 2) V L _ e3) rfl rfl rfl (Nat.le_of_ble_eq_true rfl) (xfit_of (by omega) (Nat.le_of_ble_eq_true rfl)) (Nat.zero_le _) (Nat.zero_le _) d_Council_weigh_27 ?_
    obtain ⟨c4, h⟩ := xguard h
    refine x_iastore sh_61 c4 d_Council_weigh_30 ?_
    refine x_iinc 2 1 [(2, .int (v2 + 1)), (0, .ref 60), (1, .int v1)] d_Council_weigh_31 rfl (by decide) (Nat.le_of_ble_eq_true rfl) rfl ?_
    refine x_goto 2 d_Council_weigh_34 (by decide) ?_
    refine x_pick [1, 2, 0] rfl ?_
    exact hk2 v1 (v2 + 1) (x2 p2.2 61 v2.toNatClampNeg p2.1) h
def g_Council_weigh_2  : Nat → Int32 → Int32 → xV → Option (xV)
  | 0, _, _, _ => none
  | n + 1, v1, v2, V => b_Council_weigh_2 (g_Council_weigh_2  n) v1 v2 V
theorem tg_Council_weigh_2 {L : xL} (res : xV)  : ∀ (n : Nat) (v1 : Int32) (v2 : Int32) (V : xV), g_Council_weigh_2  n v1 v2 V = some res → X M_Council_weigh (xRm (7) M_Council_weigh) (xZ M_Council_weigh (fun o h' => o = none ∧ h' = (SH, res, L))) SH V L 0 0 2 [(0, .ref 60), (1, .int v1), (2, .int v2)] []
  | 0, _, _, _, h => by cases h
  | n + 1, v1, v2, V, h => tb_Council_weigh_2 (L := L) (g_Council_weigh_2  n) res (tg_Council_weigh_2 (L := L) res n) v1 v2 V h
def f_Council_weigh (a1 : Int32) (V : xV) : Option (xV) := g_Council_weigh_2 2000 a1 0 V
theorem t_Council_weigh (a1 : Int32) (V : xV) (L : xL) (res : xV) (h : f_Council_weigh a1 V = some res) : xRuns (7) M_Council_weigh [.ref 60, .int a1] (SH, V, L) (fun o h' => o = none ∧ h' = (SH, res, L)) := by
  refine xRuns_of (by decide) (Nat.le_of_ble_eq_true rfl) ?_
  unfold f_Council_weigh at h
  show X M_Council_weigh (xRm (7) M_Council_weigh) (xZ M_Council_weigh (fun o h' => o = none ∧ h' = (SH, res, L))) SH V L 0 0 0 [(0, .ref 60), (1, .int a1)] []
  refine x_iconst 0 d_Council_weigh_0 (by decide) ?_
  refine x_istore_n [(2, .int 0), (0, .ref 60), (1, .int a1)] d_Council_weigh_1 rfl (Nat.le_of_ble_eq_true rfl) rfl ?_
  refine x_pick [1, 2, 0] rfl ?_
  exact tg_Council_weigh_2 (L := L) res _ a1 0 V h
-- Council_shareOf
def b_Council_shareOf_12 (V : xV) (k12 : Int32 → Int32 → Int32 → Int32 → Int32 → Option (Int32)) (v1 : Int32) (v2 : Int32) (v3 : Int32) (v4 : Int32) (v5 : Int32) : Option (Int32) := (if 4 ≤ v5 then (if (f_Ww_within ((2 * v1) + v3) 8) = 0 then some 0 else (if ¬ (f_Ww_within ((((2 * v1) + v3) * 4) + v4) 32) = 0 then (if xI ((2 * v1) + v3) 8 = true then (if xI ((((2 * v1) + v3) * 4) + v4) 32 = true then some ((V 61 ((2 * v1) + v3).toNatClampNeg) + (V 62 ((((2 * v1) + v3) * 4) + v4).toNatClampNeg)) else none) else none) else some 0)) else (if ((v2 >>> (v5 &&& 31)) &&& 1) = v3 then k12 v1 v2 v3 (v4 + 0) (v5 + 1) else k12 v1 v2 v3 (v4 + 1) (v5 + 1)))
theorem tb_Council_shareOf_12 {V : xV} {L : xL} (k12 : Int32 → Int32 → Int32 → Int32 → Int32 → Option (Int32)) (res : Int32) (hk12 : ∀ (v1 : Int32) (v2 : Int32) (v3 : Int32) (v4 : Int32) (v5 : Int32), k12 v1 v2 v3 v4 v5 = some res → X M_Council_shareOf (xRm (2) M_Council_shareOf) (xZ M_Council_shareOf (fun o h' => o = some (.int res) ∧ h' = (SH, V, L))) SH V L 0 0 12 [(0, .ref 60), (1, .int v1), (2, .int v2), (3, .int v3), (4, .int v4), (5, .int v5)] []) (v1 : Int32) (v2 : Int32) (v3 : Int32) (v4 : Int32) (v5 : Int32) (h : b_Council_shareOf_12 V k12 v1 v2 v3 v4 v5 = some res) : X M_Council_shareOf (xRm (2) M_Council_shareOf) (xZ M_Council_shareOf (fun o h' => o = some (.int res) ∧ h' = (SH, V, L))) SH V L 0 0 12 [(0, .ref 60), (1, .int v1), (2, .int v2), (3, .int v3), (4, .int v4), (5, .int v5)] [] := by
  unfold b_Council_shareOf_12 at h
  refine x_iload 5 d_Council_shareOf_12 rfl ?_
  refine x_iconst 4 d_Council_shareOf_14 (by decide) ?_
  refine x_icmp_ge 44 d_Council_shareOf_15 (by decide) (fun c1 => ?_) (fun c1 => ?_)
  · replace h := xpos c1 h
    refine x_iconst 2 d_Council_shareOf_44 (by decide) ?_
    refine x_iload_n 1 d_Council_shareOf_45 rfl rfl ?_
    refine x_imul d_Council_shareOf_46 ?_
    refine x_iload_n 3 d_Council_shareOf_47 rfl rfl ?_
    refine x_iadd d_Council_shareOf_48 ?_
    refine x_istore [(5, .int ((2 * v1) + v3)), (0, .ref 60), (1, .int v1), (2, .int v2), (3, .int v3), (4, .int v4)] d_Council_shareOf_49 (Nat.le_of_ble_eq_true rfl) rfl ?_
    refine x_iload 0 d_Council_shareOf_51 rfl ?_
    refine x_iconst 4 d_Council_shareOf_53 (by decide) ?_
    refine x_imul d_Council_shareOf_54 ?_
    refine x_iload 5 d_Council_shareOf_55 rfl ?_
    refine x_iadd d_Council_shareOf_57 ?_
    refine x_istore [(6, .int ((((2 * v1) + v3) * 4) + v4)), (5, .int ((2 * v1) + v3)), (0, .ref 60), (1, .int v1), (2, .int v2), (3, .int v3), (4, .int v4)] d_Council_shareOf_58 (Nat.le_of_ble_eq_true rfl) rfl ?_
    refine x_iload 1 d_Council_shareOf_60 rfl ?_
    refine x_aload_n 2 d_Council_shareOf_62 rfl rfl ?_
    refine x_getP (q := 61) f_Council_9 sh_60 rfl d_Council_shareOf_63 ?_
    refine x_alen 8 sh_61 (by decide) (by decide) d_Council_shareOf_66 ?_
    refine x_callSN0 e_Council_40 (t_Ww_within ((2 * v1) + v3) 8 V L _ rfl) rfl rfl rfl (Nat.le_of_ble_eq_true rfl) (xfit_of (by omega) (Nat.le_of_ble_eq_true rfl)) (Nat.zero_le _) (Nat.zero_le _) d_Council_shareOf_67 ?_
    refine x_if_eq 86 d_Council_shareOf_70 (by decide) (fun c3 => ?_) (fun c3 => ?_)
    · replace h := xpos c3 h
      refine x_iconst 0 d_Council_shareOf_86 (by decide) ?_
      obtain rfl := Option.some.inj h
      exact x_ireturn rfl d_Council_shareOf_87 (Nat.le_refl _) (Nat.le_refl _) ⟨rfl, rfl⟩
    · replace h := xneg c3 h
      refine x_iload 0 d_Council_shareOf_73 rfl ?_
      refine x_aload_n 2 d_Council_shareOf_75 rfl rfl ?_
      refine x_getP (q := 62) f_Council_15 sh_60 rfl d_Council_shareOf_76 ?_
      refine x_alen 32 sh_62 (by decide) (by decide) d_Council_shareOf_79 ?_
      refine x_callSN0 e_Council_40 (t_Ww_within ((((2 * v1) + v3) * 4) + v4) 32 V L _ rfl) rfl rfl rfl (Nat.le_of_ble_eq_true rfl) (xfit_of (by omega) (Nat.le_of_ble_eq_true rfl)) (Nat.zero_le _) (Nat.zero_le _) d_Council_shareOf_80 ?_
      refine x_if_ne 88 d_Council_shareOf_83 (by decide) (fun c5 => ?_) (fun c5 => ?_)
      · replace h := xpos c5 h
        refine x_aload_n 2 d_Council_shareOf_88 rfl rfl ?_
        refine x_getP (q := 61) f_Council_9 sh_60 rfl d_Council_shareOf_89 ?_
        refine x_iload 1 d_Council_shareOf_92 rfl ?_
        obtain ⟨c6, h⟩ := xguard h
        refine x_iaload sh_61 c6 d_Council_shareOf_94 ?_
        refine x_aload_n 2 d_Council_shareOf_95 rfl rfl ?_
        refine x_getP (q := 62) f_Council_15 sh_60 rfl d_Council_shareOf_96 ?_
        refine x_iload 0 d_Council_shareOf_99 rfl ?_
        obtain ⟨c7, h⟩ := xguard h
        refine x_iaload sh_62 c7 d_Council_shareOf_101 ?_
        refine x_iadd d_Council_shareOf_102 ?_
        obtain rfl := Option.some.inj h
        exact x_ireturn rfl d_Council_shareOf_103 (Nat.le_refl _) (Nat.le_refl _) ⟨rfl, rfl⟩
      · replace h := xneg c5 h
        refine x_iconst 0 d_Council_shareOf_86 (by decide) ?_
        obtain rfl := Option.some.inj h
        exact x_ireturn rfl d_Council_shareOf_87 (Nat.le_refl _) (Nat.le_refl _) ⟨rfl, rfl⟩
  · replace h := xneg c1 h
    refine x_iload 4 d_Council_shareOf_18 rfl ?_
    refine x_iload_n 2 d_Council_shareOf_20 rfl rfl ?_
    refine x_iload 5 d_Council_shareOf_21 rfl ?_
    refine x_ishr d_Council_shareOf_23 ?_
    refine x_iconst 1 d_Council_shareOf_24 (by decide) ?_
    refine x_iand d_Council_shareOf_25 ?_
    refine x_iload_n 3 d_Council_shareOf_26 rfl rfl ?_
    refine x_icmp_eq 34 d_Council_shareOf_27 (by decide) (fun c8 => ?_) (fun c8 => ?_)
    · replace h := xpos c8 h
      refine x_iconst 0 d_Council_shareOf_34 (by decide) ?_
      refine x_iadd d_Council_shareOf_35 ?_
      refine x_istore [(4, .int (v4 + 0)), (0, .ref 60), (1, .int v1), (2, .int v2), (3, .int v3), (5, .int v5)] d_Council_shareOf_36 (Nat.le_of_ble_eq_true rfl) rfl ?_
      refine x_iinc 5 1 [(5, .int (v5 + 1)), (4, .int (v4 + 0)), (0, .ref 60), (1, .int v1), (2, .int v2), (3, .int v3)] d_Council_shareOf_38 rfl (by decide) (Nat.le_of_ble_eq_true rfl) rfl ?_
      refine x_goto 12 d_Council_shareOf_41 (by decide) ?_
      refine x_pick [2, 3, 4, 5, 1, 0] rfl ?_
      exact hk12 v1 v2 v3 (v4 + 0) (v5 + 1) h
    · replace h := xneg c8 h
      refine x_iconst 1 d_Council_shareOf_30 (by decide) ?_
      refine x_goto 35 d_Council_shareOf_31 (by decide) ?_
      refine x_iadd d_Council_shareOf_35 ?_
      refine x_istore [(4, .int (v4 + 1)), (0, .ref 60), (1, .int v1), (2, .int v2), (3, .int v3), (5, .int v5)] d_Council_shareOf_36 (Nat.le_of_ble_eq_true rfl) rfl ?_
      refine x_iinc 5 1 [(5, .int (v5 + 1)), (4, .int (v4 + 1)), (0, .ref 60), (1, .int v1), (2, .int v2), (3, .int v3)] d_Council_shareOf_38 rfl (by decide) (Nat.le_of_ble_eq_true rfl) rfl ?_
      refine x_goto 12 d_Council_shareOf_41 (by decide) ?_
      refine x_pick [2, 3, 4, 5, 1, 0] rfl ?_
      exact hk12 v1 v2 v3 (v4 + 1) (v5 + 1) h
def g_Council_shareOf_12 (V : xV) : Nat → Int32 → Int32 → Int32 → Int32 → Int32 → Option (Int32)
  | 0, _, _, _, _, _ => none
  | n + 1, v1, v2, v3, v4, v5 => b_Council_shareOf_12 V (g_Council_shareOf_12 V n) v1 v2 v3 v4 v5
theorem tg_Council_shareOf_12 {V : xV} {L : xL} (res : Int32)  : ∀ (n : Nat) (v1 : Int32) (v2 : Int32) (v3 : Int32) (v4 : Int32) (v5 : Int32), g_Council_shareOf_12 V n v1 v2 v3 v4 v5 = some res → X M_Council_shareOf (xRm (2) M_Council_shareOf) (xZ M_Council_shareOf (fun o h' => o = some (.int res) ∧ h' = (SH, V, L))) SH V L 0 0 12 [(0, .ref 60), (1, .int v1), (2, .int v2), (3, .int v3), (4, .int v4), (5, .int v5)] []
  | 0, _, _, _, _, _, h => by cases h
  | n + 1, v1, v2, v3, v4, v5, h => tb_Council_shareOf_12 (V := V) (L := L) (g_Council_shareOf_12 V n) res (tg_Council_shareOf_12 (V := V) (L := L) res n) v1 v2 v3 v4 v5 h
def f_Council_shareOf (a1 : Int32) (a2 : Int32) (V : xV) : Option (Int32) := g_Council_shareOf_12 V 2000 a1 a2 ((a2 >>> (a1 &&& 31)) &&& 1) 0 0
theorem t_Council_shareOf (a1 : Int32) (a2 : Int32) (V : xV) (L : xL) (res : Int32) (h : f_Council_shareOf a1 a2 V = some res) : xRuns (2) M_Council_shareOf [.ref 60, .int a1, .int a2] (SH, V, L) (fun o h' => o = some (.int res) ∧ h' = (SH, V, L)) := by
  refine xRuns_of (by decide) (Nat.le_of_ble_eq_true rfl) ?_
  unfold f_Council_shareOf at h
  show X M_Council_shareOf (xRm (2) M_Council_shareOf) (xZ M_Council_shareOf (fun o h' => o = some (.int res) ∧ h' = (SH, V, L))) SH V L 0 0 0 [(0, .ref 60), (1, .int a1), (2, .int a2)] []
  refine x_iload_n 2 d_Council_shareOf_0 rfl rfl ?_
  refine x_iload_n 1 d_Council_shareOf_1 rfl rfl ?_
  refine x_ishr d_Council_shareOf_2 ?_
  refine x_iconst 1 d_Council_shareOf_3 (by decide) ?_
  refine x_iand d_Council_shareOf_4 ?_
  refine x_istore_n [(3, .int ((a2 >>> (a1 &&& 31)) &&& 1)), (0, .ref 60), (1, .int a1), (2, .int a2)] d_Council_shareOf_5 rfl (Nat.le_of_ble_eq_true rfl) rfl ?_
  refine x_iconst 0 d_Council_shareOf_6 (by decide) ?_
  refine x_istore [(4, .int 0), (3, .int ((a2 >>> (a1 &&& 31)) &&& 1)), (0, .ref 60), (1, .int a1), (2, .int a2)] d_Council_shareOf_7 (Nat.le_of_ble_eq_true rfl) rfl ?_
  refine x_iconst 0 d_Council_shareOf_9 (by decide) ?_
  refine x_istore [(5, .int 0), (4, .int 0), (3, .int ((a2 >>> (a1 &&& 31)) &&& 1)), (0, .ref 60), (1, .int a1), (2, .int a2)] d_Council_shareOf_10 (Nat.le_of_ble_eq_true rfl) rfl ?_
  refine x_pick [3, 4, 5, 2, 1, 0] rfl ?_
  exact tg_Council_shareOf_12 (V := V) (L := L) res _ a1 a2 ((a2 >>> (a1 &&& 31)) &&& 1) 0 0 h
-- Council_isEven
def b_Council_isEven_2 (V : xV) (k2 : Int32 → Int32 → Option (Int32)) (v1 : Int32) (v2 : Int32) : Option (Int32) := (if 4 ≤ v2 then some 1 else (Option.bind (f_Council_shareOf v2 (v1 ^^^ (1 <<< (v2 &&& 31))) V) fun p2 => (Option.bind (f_Council_shareOf v2 v1 V) fun p4 => (if p2 ≤ p4 then k2 v1 (v2 + 1) else some 0))))
theorem tb_Council_isEven_2 {V : xV} {L : xL} (k2 : Int32 → Int32 → Option (Int32)) (res : Int32) (hk2 : ∀ (v1 : Int32) (v2 : Int32), k2 v1 v2 = some res → X M_Council_isEven (xRm (3) M_Council_isEven) (xZ M_Council_isEven (fun o h' => o = some (.int res) ∧ h' = (SH, V, L))) SH V L 0 0 2 [(0, .ref 60), (1, .int v1), (2, .int v2)] []) (v1 : Int32) (v2 : Int32) (h : b_Council_isEven_2 V k2 v1 v2 = some res) : X M_Council_isEven (xRm (3) M_Council_isEven) (xZ M_Council_isEven (fun o h' => o = some (.int res) ∧ h' = (SH, V, L))) SH V L 0 0 2 [(0, .ref 60), (1, .int v1), (2, .int v2)] [] := by
  unfold b_Council_isEven_2 at h
  refine x_iload_n 2 d_Council_isEven_2 rfl rfl ?_
  refine x_iconst 4 d_Council_isEven_3 (by decide) ?_
  refine x_icmp_ge 34 d_Council_isEven_4 (by decide) (fun c1 => ?_) (fun c1 => ?_)
  · replace h := xpos c1 h
    refine x_iconst 1 d_Council_isEven_34 (by decide) ?_
    obtain rfl := Option.some.inj h
    exact x_zreturn rfl rfl d_Council_isEven_35 (Nat.le_refl _) (Nat.le_refl _) ⟨rfl, rfl⟩
  · replace h := xneg c1 h
    refine x_aload_n 0 d_Council_isEven_7 rfl rfl ?_
    refine x_iload_n 2 d_Council_isEven_8 rfl rfl ?_
    refine x_iload_n 1 d_Council_isEven_9 rfl rfl ?_
    refine x_iconst 1 d_Council_isEven_10 (by decide) ?_
    refine x_iload_n 2 d_Council_isEven_11 rfl rfl ?_
    refine x_ishl d_Council_isEven_12 ?_
    refine x_ixor d_Council_isEven_13 ?_
    obtain ⟨p2, e3, h⟩ := xbind h
    refine x_callV0 e_Council_36 sh_60 rfl (t_Council_shareOf v2 (v1 ^^^ (1 <<< (v2 &&& 31))) V L _ e3) rfl rfl rfl (Nat.le_of_ble_eq_true rfl) (xfit_of (by omega) (Nat.le_of_ble_eq_true rfl)) (Nat.zero_le _) (Nat.zero_le _) d_Council_isEven_14 ?_
    refine x_aload_n 0 d_Council_isEven_17 rfl rfl ?_
    refine x_iload_n 2 d_Council_isEven_18 rfl rfl ?_
    refine x_iload_n 1 d_Council_isEven_19 rfl rfl ?_
    obtain ⟨p4, e5, h⟩ := xbind h
    refine x_callV0 e_Council_36 sh_60 rfl (t_Council_shareOf v2 v1 V L _ e5) rfl rfl rfl (Nat.le_of_ble_eq_true rfl) (xfit_of (by omega) (Nat.le_of_ble_eq_true rfl)) (Nat.zero_le _) (Nat.zero_le _) d_Council_isEven_20 ?_
    refine x_icmp_le 28 d_Council_isEven_23 (by decide) (fun c6 => ?_) (fun c6 => ?_)
    · replace h := xpos c6 h
      refine x_iinc 2 1 [(2, .int (v2 + 1)), (0, .ref 60), (1, .int v1)] d_Council_isEven_28 rfl (by decide) (Nat.le_of_ble_eq_true rfl) rfl ?_
      refine x_goto 2 d_Council_isEven_31 (by decide) ?_
      refine x_pick [1, 2, 0] rfl ?_
      exact hk2 v1 (v2 + 1) h
    · replace h := xneg c6 h
      refine x_iconst 0 d_Council_isEven_26 (by decide) ?_
      obtain rfl := Option.some.inj h
      exact x_zreturn rfl rfl d_Council_isEven_27 (Nat.le_refl _) (Nat.le_refl _) ⟨rfl, rfl⟩
def g_Council_isEven_2 (V : xV) : Nat → Int32 → Int32 → Option (Int32)
  | 0, _, _ => none
  | n + 1, v1, v2 => b_Council_isEven_2 V (g_Council_isEven_2 V n) v1 v2
theorem tg_Council_isEven_2 {V : xV} {L : xL} (res : Int32)  : ∀ (n : Nat) (v1 : Int32) (v2 : Int32), g_Council_isEven_2 V n v1 v2 = some res → X M_Council_isEven (xRm (3) M_Council_isEven) (xZ M_Council_isEven (fun o h' => o = some (.int res) ∧ h' = (SH, V, L))) SH V L 0 0 2 [(0, .ref 60), (1, .int v1), (2, .int v2)] []
  | 0, _, _, h => by cases h
  | n + 1, v1, v2, h => tb_Council_isEven_2 (V := V) (L := L) (g_Council_isEven_2 V n) res (tg_Council_isEven_2 (V := V) (L := L) res n) v1 v2 h
def f_Council_isEven (a1 : Int32) (V : xV) : Option (Int32) := g_Council_isEven_2 V 2000 a1 0
theorem t_Council_isEven (a1 : Int32) (V : xV) (L : xL) (res : Int32) (h : f_Council_isEven a1 V = some res) : xRuns (3) M_Council_isEven [.ref 60, .int a1] (SH, V, L) (fun o h' => o = some (.int res) ∧ h' = (SH, V, L)) := by
  refine xRuns_of (by decide) (Nat.le_of_ble_eq_true rfl) ?_
  unfold f_Council_isEven at h
  show X M_Council_isEven (xRm (3) M_Council_isEven) (xZ M_Council_isEven (fun o h' => o = some (.int res) ∧ h' = (SH, V, L))) SH V L 0 0 0 [(0, .ref 60), (1, .int a1)] []
  refine x_iconst 0 d_Council_isEven_0 (by decide) ?_
  refine x_istore_n [(2, .int 0), (0, .ref 60), (1, .int a1)] d_Council_isEven_1 rfl (Nat.le_of_ble_eq_true rfl) rfl ?_
  refine x_pick [1, 2, 0] rfl ?_
  exact tg_Council_isEven_2 (V := V) (L := L) res _ a1 0 h
-- Ww_even
def b_Ww_even_29 (k29 : Int32 → Int32 → Int32 → xV → Option (Int32 × xV)) (v2 : Int32) (v3 : Int32) (v4 : Int32) (V : xV) : Option (Int32 × xV) := (if 16 ≤ v4 then (if ¬ v2 = (-1) then some ((-1), V) else some (v3, V)) else (Option.bind (f_Council_isEven v4 V) fun p8 => (if p8 = 0 then k29 v2 v3 (v4 + 1) V else (if ¬ v3 = v2 then k29 v2 (v3 + 1) (v4 + 1) V else some (v4, V)))))
theorem tb_Ww_even_29 {L : xL} (k29 : Int32 → Int32 → Int32 → xV → Option (Int32 × xV)) (res : Int32 × xV) (hk29 : ∀ (v2 : Int32) (v3 : Int32) (v4 : Int32) (V : xV), k29 v2 v3 v4 V = some res → X M_Ww_even (xRm (8) M_Ww_even) (xZ M_Ww_even (fun o h' => o = some (.int res.1) ∧ h' = (SH, res.2, L))) SH V L 0 0 29 [(0, .ref 0), (2, .int v2), (3, .int v3), (4, .int v4)] []) (v2 : Int32) (v3 : Int32) (v4 : Int32) (V : xV) (h : b_Ww_even_29 k29 v2 v3 v4 V = some res) : X M_Ww_even (xRm (8) M_Ww_even) (xZ M_Ww_even (fun o h' => o = some (.int res.1) ∧ h' = (SH, res.2, L))) SH V L 0 0 29 [(0, .ref 0), (2, .int v2), (3, .int v3), (4, .int v4)] [] := by
  unfold b_Ww_even_29 at h
  refine x_iload 3 d_Ww_even_29 rfl ?_
  refine x_bipush 16 d_Ww_even_31 (by decide) ?_
  refine x_icmp_ge 65 d_Ww_even_33 (by decide) (fun c6 => ?_) (fun c6 => ?_)
  · replace h := xpos c6 h
    refine x_iload_n 1 d_Ww_even_65 rfl rfl ?_
    refine x_iconst (-1) d_Ww_even_66 (by decide) ?_
    refine x_icmp_ne 74 d_Ww_even_67 (by decide) (fun c7 => ?_) (fun c7 => ?_)
    · replace h := xpos c7 h
      refine x_iconst (-1) d_Ww_even_74 (by decide) ?_
      obtain rfl := Option.some.inj h
      exact x_ireturn rfl d_Ww_even_75 (Nat.le_refl _) (Nat.le_refl _) ⟨rfl, rfl⟩
    · replace h := xneg c7 h
      refine x_iload_n 2 d_Ww_even_70 rfl rfl ?_
      refine x_goto 75 d_Ww_even_71 (by decide) ?_
      obtain rfl := Option.some.inj h
      exact x_ireturn rfl d_Ww_even_75 (Nat.le_refl _) (Nat.le_refl _) ⟨rfl, rfl⟩
  · replace h := xneg c6 h
    refine x_aload_n 0 d_Ww_even_36 rfl rfl ?_
    refine x_getP (q := 60) f_Ww_69 sh_0 rfl d_Ww_even_37 ?_
    refine x_iload 3 d_Ww_even_40 rfl ?_
    obtain ⟨p8, e9, h⟩ := xbind h
    refine x_callV0 e_Ww_227 sh_60 rfl (t_Council_isEven v4 V L _ e9) rfl rfl rfl (Nat.le_of_ble_eq_true rfl) (xfit_of (by omega) (Nat.le_of_ble_eq_true rfl)) (Nat.zero_le _) (Nat.zero_le _) d_Ww_even_42 ?_
    refine x_if_eq 59 d_Ww_even_45 (by decide) (fun c10 => ?_) (fun c10 => ?_)
    · replace h := xpos c10 h
      refine x_iinc 3 1 [(4, .int (v4 + 1)), (0, .ref 0), (2, .int v2), (3, .int v3)] d_Ww_even_59 rfl (by decide) (Nat.le_of_ble_eq_true rfl) rfl ?_
      refine x_goto 29 d_Ww_even_62 (by decide) ?_
      refine x_pick [1, 2, 3, 0] rfl ?_
      exact hk29 v2 v3 (v4 + 1) V h
    · replace h := xneg c10 h
      refine x_iload_n 2 d_Ww_even_48 rfl rfl ?_
      refine x_iload_n 1 d_Ww_even_49 rfl rfl ?_
      refine x_icmp_ne 56 d_Ww_even_50 (by decide) (fun c11 => ?_) (fun c11 => ?_)
      · replace h := xpos c11 h
        refine x_iinc 2 1 [(3, .int (v3 + 1)), (0, .ref 0), (2, .int v2), (4, .int v4)] d_Ww_even_56 rfl (by decide) (Nat.le_of_ble_eq_true rfl) rfl ?_
        refine x_iinc 3 1 [(4, .int (v4 + 1)), (3, .int (v3 + 1)), (0, .ref 0), (2, .int v2)] d_Ww_even_59 rfl (by decide) (Nat.le_of_ble_eq_true rfl) rfl ?_
        refine x_goto 29 d_Ww_even_62 (by decide) ?_
        refine x_pick [2, 3, 1, 0] rfl ?_
        exact hk29 v2 (v3 + 1) (v4 + 1) V h
      · replace h := xneg c11 h
        refine x_iload 3 d_Ww_even_53 rfl ?_
        obtain rfl := Option.some.inj h
        exact x_ireturn rfl d_Ww_even_55 (Nat.le_refl _) (Nat.le_refl _) ⟨rfl, rfl⟩
def g_Ww_even_29  : Nat → Int32 → Int32 → Int32 → xV → Option (Int32 × xV)
  | 0, _, _, _, _ => none
  | n + 1, v2, v3, v4, V => b_Ww_even_29 (g_Ww_even_29  n) v2 v3 v4 V
theorem tg_Ww_even_29 {L : xL} (res : Int32 × xV)  : ∀ (n : Nat) (v2 : Int32) (v3 : Int32) (v4 : Int32) (V : xV), g_Ww_even_29  n v2 v3 v4 V = some res → X M_Ww_even (xRm (8) M_Ww_even) (xZ M_Ww_even (fun o h' => o = some (.int res.1) ∧ h' = (SH, res.2, L))) SH V L 0 0 29 [(0, .ref 0), (2, .int v2), (3, .int v3), (4, .int v4)] []
  | 0, _, _, _, _, h => by cases h
  | n + 1, v2, v3, v4, V, h => tb_Ww_even_29 (L := L) (g_Ww_even_29  n) res (tg_Ww_even_29 (L := L) res n) v2 v3 v4 V h
def f_Ww_even (a1 : Int32) (a2 : Int32) (V : xV) : Option (Int32 × xV) := (if (f_Ww_within a1 30) = 0 then some ((-1), V) else (if (-1) ≤ a2 then (Option.bind (f_Council_weigh a1 V) fun p4 => g_Ww_even_29 2000 a2 0 0 p4) else some ((-1), V)))
theorem t_Ww_even (a1 : Int32) (a2 : Int32) (V : xV) (L : xL) (res : Int32 × xV) (h : f_Ww_even a1 a2 V = some res) : xRuns (8) M_Ww_even [.ref 0, .int a1, .int a2] (SH, V, L) (fun o h' => o = some (.int res.1) ∧ h' = (SH, res.2, L)) := by
  refine xRuns_of (by decide) (Nat.le_of_ble_eq_true rfl) ?_
  unfold f_Ww_even at h
  show X M_Ww_even (xRm (8) M_Ww_even) (xZ M_Ww_even (fun o h' => o = some (.int res.1) ∧ h' = (SH, res.2, L))) SH V L 0 0 0 [(0, .ref 0), (1, .int a1), (2, .int a2)] []
  refine x_iload_n 1 d_Ww_even_0 rfl rfl ?_
  refine x_bipush 30 d_Ww_even_1 (by decide) ?_
  refine x_callS0 e_Ww_80 (t_Ww_within a1 30 V L _ rfl) rfl rfl rfl (Nat.le_of_ble_eq_true rfl) (xfit_of (by omega) (Nat.le_of_ble_eq_true rfl)) (Nat.zero_le _) (Nat.zero_le _) d_Ww_even_3 ?_
  refine x_if_eq 14 d_Ww_even_6 (by decide) (fun c2 => ?_) (fun c2 => ?_)
  · replace h := xpos c2 h
    refine x_iconst (-1) d_Ww_even_14 (by decide) ?_
    obtain rfl := Option.some.inj h
    exact x_ireturn rfl d_Ww_even_15 (Nat.le_refl _) (Nat.le_refl _) ⟨rfl, rfl⟩
  · replace h := xneg c2 h
    refine x_iload_n 2 d_Ww_even_9 rfl rfl ?_
    refine x_iconst (-1) d_Ww_even_10 (by decide) ?_
    refine x_icmp_ge 16 d_Ww_even_11 (by decide) (fun c3 => ?_) (fun c3 => ?_)
    · replace h := xpos c3 h
      refine x_aload_n 0 d_Ww_even_16 rfl rfl ?_
      refine x_getP (q := 60) f_Ww_69 sh_0 rfl d_Ww_even_17 ?_
      refine x_iload_n 1 d_Ww_even_20 rfl rfl ?_
      obtain ⟨p4, e5, h⟩ := xbind h
      refine x_callV0v e_Ww_224 sh_60 rfl (t_Council_weigh a1 V L _ e5) rfl rfl rfl (Nat.le_of_ble_eq_true rfl) (xfit_of (by omega) (Nat.le_of_ble_eq_true rfl)) (Nat.zero_le _) (Nat.zero_le _) d_Ww_even_21 ?_
      refine x_iconst 0 d_Ww_even_24 (by decide) ?_
      refine x_istore_n [(3, .int 0), (0, .ref 0), (1, .int a1), (2, .int a2)] d_Ww_even_25 rfl (Nat.le_of_ble_eq_true rfl) rfl ?_
      refine x_iconst 0 d_Ww_even_26 (by decide) ?_
      refine x_istore [(4, .int 0), (3, .int 0), (0, .ref 0), (1, .int a1), (2, .int a2)] d_Ww_even_27 (Nat.le_of_ble_eq_true rfl) rfl ?_
      refine x_pick [2, 4, 1, 0] rfl ?_
      exact tg_Ww_even_29 (L := L) res _ a2 0 0 p4 h
    · replace h := xneg c3 h
      refine x_iconst (-1) d_Ww_even_14 (by decide) ?_
      obtain rfl := Option.some.inj h
      exact x_ireturn rfl d_Ww_even_15 (Nat.le_refl _) (Nat.le_refl _) ⟨rfl, rfl⟩
-- Rolls_wetDecreesOn
def b_Rolls_wetDecreesOn_4 (V : xV) (k4 : Int32 → Int32 → Int32 → Option (Int32)) (v1 : Int32) (v2 : Int32) (v3 : Int32) : Option (Int32) := (if 4 ≤ v3 then some v2 else (Option.bind (f_Rolls_decreeOf v1 v3 V) fun p2 => k4 v1 (v2 + p2) (v3 + 1)))
theorem tb_Rolls_wetDecreesOn_4 {V : xV} {L : xL} (k4 : Int32 → Int32 → Int32 → Option (Int32)) (res : Int32) (hk4 : ∀ (v1 : Int32) (v2 : Int32) (v3 : Int32), k4 v1 v2 v3 = some res → X M_Rolls_wetDecreesOn (xRm (3) M_Rolls_wetDecreesOn) (xZ M_Rolls_wetDecreesOn (fun o h' => o = some (.int res) ∧ h' = (SH, V, L))) SH V L 0 0 4 [(0, .ref 1), (1, .int v1), (2, .int v2), (3, .int v3)] []) (v1 : Int32) (v2 : Int32) (v3 : Int32) (h : b_Rolls_wetDecreesOn_4 V k4 v1 v2 v3 = some res) : X M_Rolls_wetDecreesOn (xRm (3) M_Rolls_wetDecreesOn) (xZ M_Rolls_wetDecreesOn (fun o h' => o = some (.int res) ∧ h' = (SH, V, L))) SH V L 0 0 4 [(0, .ref 1), (1, .int v1), (2, .int v2), (3, .int v3)] [] := by
  unfold b_Rolls_wetDecreesOn_4 at h
  refine x_iload_n 3 d_Rolls_wetDecreesOn_4 rfl rfl ?_
  refine x_iconst 4 d_Rolls_wetDecreesOn_5 (by decide) ?_
  refine x_icmp_ge 24 d_Rolls_wetDecreesOn_6 (by decide) (fun c1 => ?_) (fun c1 => ?_)
  · replace h := xpos c1 h
    refine x_iload_n 2 d_Rolls_wetDecreesOn_24 rfl rfl ?_
    obtain rfl := Option.some.inj h
    exact x_ireturn rfl d_Rolls_wetDecreesOn_25 (Nat.le_refl _) (Nat.le_refl _) ⟨rfl, rfl⟩
  · replace h := xneg c1 h
    refine x_iload_n 2 d_Rolls_wetDecreesOn_9 rfl rfl ?_
    refine x_aload_n 0 d_Rolls_wetDecreesOn_10 rfl rfl ?_
    refine x_iload_n 1 d_Rolls_wetDecreesOn_11 rfl rfl ?_
    refine x_iload_n 3 d_Rolls_wetDecreesOn_12 rfl rfl ?_
    obtain ⟨p2, e3, h⟩ := xbind h
    refine x_callV0 e_Rolls_68 sh_1 rfl (t_Rolls_decreeOf v1 v3 V L _ e3) rfl rfl rfl (Nat.le_of_ble_eq_true rfl) (xfit_of (by omega) (Nat.le_of_ble_eq_true rfl)) (Nat.zero_le _) (Nat.zero_le _) d_Rolls_wetDecreesOn_13 ?_
    refine x_iadd d_Rolls_wetDecreesOn_16 ?_
    refine x_istore_n [(2, .int (v2 + p2)), (0, .ref 1), (1, .int v1), (3, .int v3)] d_Rolls_wetDecreesOn_17 rfl (Nat.le_of_ble_eq_true rfl) rfl ?_
    refine x_iinc 3 1 [(3, .int (v3 + 1)), (2, .int (v2 + p2)), (0, .ref 1), (1, .int v1)] d_Rolls_wetDecreesOn_18 rfl (by decide) (Nat.le_of_ble_eq_true rfl) rfl ?_
    refine x_goto 4 d_Rolls_wetDecreesOn_21 (by decide) ?_
    refine x_pick [2, 3, 1, 0] rfl ?_
    exact hk4 v1 (v2 + p2) (v3 + 1) h
def g_Rolls_wetDecreesOn_4 (V : xV) : Nat → Int32 → Int32 → Int32 → Option (Int32)
  | 0, _, _, _ => none
  | n + 1, v1, v2, v3 => b_Rolls_wetDecreesOn_4 V (g_Rolls_wetDecreesOn_4 V n) v1 v2 v3
theorem tg_Rolls_wetDecreesOn_4 {V : xV} {L : xL} (res : Int32)  : ∀ (n : Nat) (v1 : Int32) (v2 : Int32) (v3 : Int32), g_Rolls_wetDecreesOn_4 V n v1 v2 v3 = some res → X M_Rolls_wetDecreesOn (xRm (3) M_Rolls_wetDecreesOn) (xZ M_Rolls_wetDecreesOn (fun o h' => o = some (.int res) ∧ h' = (SH, V, L))) SH V L 0 0 4 [(0, .ref 1), (1, .int v1), (2, .int v2), (3, .int v3)] []
  | 0, _, _, _, h => by cases h
  | n + 1, v1, v2, v3, h => tb_Rolls_wetDecreesOn_4 (V := V) (L := L) (g_Rolls_wetDecreesOn_4 V n) res (tg_Rolls_wetDecreesOn_4 (V := V) (L := L) res n) v1 v2 v3 h
def f_Rolls_wetDecreesOn (a1 : Int32) (V : xV) : Option (Int32) := g_Rolls_wetDecreesOn_4 V 2000 a1 0 0
theorem t_Rolls_wetDecreesOn (a1 : Int32) (V : xV) (L : xL) (res : Int32) (h : f_Rolls_wetDecreesOn a1 V = some res) : xRuns (3) M_Rolls_wetDecreesOn [.ref 1, .int a1] (SH, V, L) (fun o h' => o = some (.int res) ∧ h' = (SH, V, L)) := by
  refine xRuns_of (by decide) (Nat.le_of_ble_eq_true rfl) ?_
  unfold f_Rolls_wetDecreesOn at h
  show X M_Rolls_wetDecreesOn (xRm (3) M_Rolls_wetDecreesOn) (xZ M_Rolls_wetDecreesOn (fun o h' => o = some (.int res) ∧ h' = (SH, V, L))) SH V L 0 0 0 [(0, .ref 1), (1, .int a1)] []
  refine x_iconst 0 d_Rolls_wetDecreesOn_0 (by decide) ?_
  refine x_istore_n [(2, .int 0), (0, .ref 1), (1, .int a1)] d_Rolls_wetDecreesOn_1 rfl (Nat.le_of_ble_eq_true rfl) rfl ?_
  refine x_iconst 0 d_Rolls_wetDecreesOn_2 (by decide) ?_
  refine x_istore_n [(3, .int 0), (2, .int 0), (0, .ref 1), (1, .int a1)] d_Rolls_wetDecreesOn_3 rfl (Nat.le_of_ble_eq_true rfl) rfl ?_
  refine x_pick [2, 3, 1, 0] rfl ?_
  exact tg_Rolls_wetDecreesOn_4 (V := V) (L := L) res _ a1 0 0 h
-- Ww_flood
def b_Ww_flood_4 (V : xV) (k4 : Int32 → Int32 → Int32 → Option (Int32)) (v1 : Int32) (v2 : Int32) (v3 : Int32) : Option (Int32) := (if 30 ≤ v3 then (if ¬ v1 = (-1) then some (-1) else some v2) else (if xI v3 30 = true then (if 5 ≤ (V 5 v3.toNatClampNeg) then k4 v1 v2 (v3 + 1) else (Option.bind (f_Rolls_wetDecreesOn v3 V) fun p5 => (if ¬ p5 = 4 then k4 v1 v2 (v3 + 1) else (if ¬ v2 = v1 then k4 v1 (v2 + 1) (v3 + 1) else some v3)))) else none))
theorem tb_Ww_flood_4 {V : xV} {L : xL} (k4 : Int32 → Int32 → Int32 → Option (Int32)) (res : Int32) (hk4 : ∀ (v1 : Int32) (v2 : Int32) (v3 : Int32), k4 v1 v2 v3 = some res → X M_Ww_flood (xRm (4) M_Ww_flood) (xZ M_Ww_flood (fun o h' => o = some (.int res) ∧ h' = (SH, V, L))) SH V L 0 0 4 [(0, .ref 0), (1, .int v1), (2, .int v2), (3, .int v3)] []) (v1 : Int32) (v2 : Int32) (v3 : Int32) (h : b_Ww_flood_4 V k4 v1 v2 v3 = some res) : X M_Ww_flood (xRm (4) M_Ww_flood) (xZ M_Ww_flood (fun o h' => o = some (.int res) ∧ h' = (SH, V, L))) SH V L 0 0 4 [(0, .ref 0), (1, .int v1), (2, .int v2), (3, .int v3)] [] := by
  unfold b_Ww_flood_4 at h
  refine x_iload_n 3 d_Ww_flood_4 rfl rfl ?_
  refine x_bipush 30 d_Ww_flood_5 (by decide) ?_
  refine x_icmp_ge 51 d_Ww_flood_7 (by decide) (fun c1 => ?_) (fun c1 => ?_)
  · replace h := xpos c1 h
    refine x_iload_n 1 d_Ww_flood_51 rfl rfl ?_
    refine x_iconst (-1) d_Ww_flood_52 (by decide) ?_
    refine x_icmp_ne 60 d_Ww_flood_53 (by decide) (fun c2 => ?_) (fun c2 => ?_)
    · replace h := xpos c2 h
      refine x_iconst (-1) d_Ww_flood_60 (by decide) ?_
      obtain rfl := Option.some.inj h
      exact x_ireturn rfl d_Ww_flood_61 (Nat.le_refl _) (Nat.le_refl _) ⟨rfl, rfl⟩
    · replace h := xneg c2 h
      refine x_iload_n 2 d_Ww_flood_56 rfl rfl ?_
      refine x_goto 61 d_Ww_flood_57 (by decide) ?_
      obtain rfl := Option.some.inj h
      exact x_ireturn rfl d_Ww_flood_61 (Nat.le_refl _) (Nat.le_refl _) ⟨rfl, rfl⟩
  · replace h := xneg c1 h
    refine x_aload_n 0 d_Ww_flood_10 rfl rfl ?_
    refine x_getP (q := 1) f_Ww_10 sh_0 rfl d_Ww_flood_11 ?_
    refine x_getP (q := 5) f_Ww_88 sh_1 rfl d_Ww_flood_14 ?_
    refine x_iload_n 3 d_Ww_flood_17 rfl rfl ?_
    obtain ⟨c3, h⟩ := xguard h
    refine x_iaload sh_5 c3 d_Ww_flood_18 ?_
    refine x_iconst 5 d_Ww_flood_19 (by decide) ?_
    refine x_icmp_ge 45 d_Ww_flood_20 (by decide) (fun c4 => ?_) (fun c4 => ?_)
    · replace h := xpos c4 h
      refine x_iinc 3 1 [(3, .int (v3 + 1)), (0, .ref 0), (1, .int v1), (2, .int v2)] d_Ww_flood_45 rfl (by decide) (Nat.le_of_ble_eq_true rfl) rfl ?_
      refine x_goto 4 d_Ww_flood_48 (by decide) ?_
      refine x_pick [1, 2, 3, 0] rfl ?_
      exact hk4 v1 v2 (v3 + 1) h
    · replace h := xneg c4 h
      refine x_aload_n 0 d_Ww_flood_23 rfl rfl ?_
      refine x_getP (q := 1) f_Ww_10 sh_0 rfl d_Ww_flood_24 ?_
      refine x_iload_n 3 d_Ww_flood_27 rfl rfl ?_
      obtain ⟨p5, e6, h⟩ := xbind h
      refine x_callV0 e_Ww_230 sh_1 rfl (t_Rolls_wetDecreesOn v3 V L _ e6) rfl rfl rfl (Nat.le_of_ble_eq_true rfl) (xfit_of (by omega) (Nat.le_of_ble_eq_true rfl)) (Nat.zero_le _) (Nat.zero_le _) d_Ww_flood_28 ?_
      refine x_iconst 4 d_Ww_flood_31 (by decide) ?_
      refine x_icmp_ne 45 d_Ww_flood_32 (by decide) (fun c7 => ?_) (fun c7 => ?_)
      · replace h := xpos c7 h
        refine x_iinc 3 1 [(3, .int (v3 + 1)), (0, .ref 0), (1, .int v1), (2, .int v2)] d_Ww_flood_45 rfl (by decide) (Nat.le_of_ble_eq_true rfl) rfl ?_
        refine x_goto 4 d_Ww_flood_48 (by decide) ?_
        refine x_pick [1, 2, 3, 0] rfl ?_
        exact hk4 v1 v2 (v3 + 1) h
      · replace h := xneg c7 h
        refine x_iload_n 2 d_Ww_flood_35 rfl rfl ?_
        refine x_iload_n 1 d_Ww_flood_36 rfl rfl ?_
        refine x_icmp_ne 42 d_Ww_flood_37 (by decide) (fun c8 => ?_) (fun c8 => ?_)
        · replace h := xpos c8 h
          refine x_iinc 2 1 [(2, .int (v2 + 1)), (0, .ref 0), (1, .int v1), (3, .int v3)] d_Ww_flood_42 rfl (by decide) (Nat.le_of_ble_eq_true rfl) rfl ?_
          refine x_iinc 3 1 [(3, .int (v3 + 1)), (2, .int (v2 + 1)), (0, .ref 0), (1, .int v1)] d_Ww_flood_45 rfl (by decide) (Nat.le_of_ble_eq_true rfl) rfl ?_
          refine x_goto 4 d_Ww_flood_48 (by decide) ?_
          refine x_pick [2, 3, 1, 0] rfl ?_
          exact hk4 v1 (v2 + 1) (v3 + 1) h
        · replace h := xneg c8 h
          refine x_iload_n 3 d_Ww_flood_40 rfl rfl ?_
          obtain rfl := Option.some.inj h
          exact x_ireturn rfl d_Ww_flood_41 (Nat.le_refl _) (Nat.le_refl _) ⟨rfl, rfl⟩
def g_Ww_flood_4 (V : xV) : Nat → Int32 → Int32 → Int32 → Option (Int32)
  | 0, _, _, _ => none
  | n + 1, v1, v2, v3 => b_Ww_flood_4 V (g_Ww_flood_4 V n) v1 v2 v3
theorem tg_Ww_flood_4 {V : xV} {L : xL} (res : Int32)  : ∀ (n : Nat) (v1 : Int32) (v2 : Int32) (v3 : Int32), g_Ww_flood_4 V n v1 v2 v3 = some res → X M_Ww_flood (xRm (4) M_Ww_flood) (xZ M_Ww_flood (fun o h' => o = some (.int res) ∧ h' = (SH, V, L))) SH V L 0 0 4 [(0, .ref 0), (1, .int v1), (2, .int v2), (3, .int v3)] []
  | 0, _, _, _, h => by cases h
  | n + 1, v1, v2, v3, h => tb_Ww_flood_4 (V := V) (L := L) (g_Ww_flood_4 V n) res (tg_Ww_flood_4 (V := V) (L := L) res n) v1 v2 v3 h
def f_Ww_flood (a1 : Int32) (V : xV) : Option (Int32) := g_Ww_flood_4 V 2000 a1 0 0
theorem t_Ww_flood (a1 : Int32) (V : xV) (L : xL) (res : Int32) (h : f_Ww_flood a1 V = some res) : xRuns (4) M_Ww_flood [.ref 0, .int a1] (SH, V, L) (fun o h' => o = some (.int res) ∧ h' = (SH, V, L)) := by
  refine xRuns_of (by decide) (Nat.le_of_ble_eq_true rfl) ?_
  unfold f_Ww_flood at h
  show X M_Ww_flood (xRm (4) M_Ww_flood) (xZ M_Ww_flood (fun o h' => o = some (.int res) ∧ h' = (SH, V, L))) SH V L 0 0 0 [(0, .ref 0), (1, .int a1)] []
  refine x_iconst 0 d_Ww_flood_0 (by decide) ?_
  refine x_istore_n [(2, .int 0), (0, .ref 0), (1, .int a1)] d_Ww_flood_1 rfl (Nat.le_of_ble_eq_true rfl) rfl ?_
  refine x_iconst 0 d_Ww_flood_2 (by decide) ?_
  refine x_istore_n [(3, .int 0), (2, .int 0), (0, .ref 0), (1, .int a1)] d_Ww_flood_3 rfl (Nat.le_of_ble_eq_true rfl) rfl ?_
  refine x_pick [2, 3, 1, 0] rfl ?_
  exact tg_Ww_flood_4 (V := V) (L := L) res _ a1 0 0 h
-- Law_clauseAt
def f_Law_clauseAt (q0 : Nat) (a1 : Int32) (V : xV) : Option (Int32) := (if (f_Ww_within a1 (V q0 4)) = 0 then some (-1) else (if 6 ≤ a1 then some (-1) else (if xI a1 6 = true then some (V (q0 + 4) a1.toNatClampNeg) else none)))
theorem t_Law_clauseAt (q0 : Nat) (a1 : Int32) (hq0 : lawB q0 = true) (V : xV) (L : xL) (res : Int32) (h : f_Law_clauseAt q0 a1 V = some res) : xRuns (2) M_Law_clauseAt [.ref q0, .int a1] (SH, V, L) (fun o h' => o = some (.int res) ∧ h' = (SH, V, L)) := by
  refine xRuns_of (by decide) (Nat.le_of_ble_eq_true rfl) ?_
  unfold f_Law_clauseAt at h
  show X M_Law_clauseAt (xRm (2) M_Law_clauseAt) (xZ M_Law_clauseAt (fun o h' => o = some (.int res) ∧ h' = (SH, V, L))) SH V L 0 0 0 [(0, .ref q0), (1, .int a1)] []
  refine x_iload_n 1 d_Law_clauseAt_0 rfl rfl ?_
  refine x_aload_n 0 d_Law_clauseAt_1 rfl rfl ?_
  refine x_getI f_Law_30 (sh_law hq0) rfl d_Law_clauseAt_2 ?_
  refine x_callSN0 e_Law_37 (t_Ww_within a1 (V q0 4) V L _ rfl) rfl rfl rfl (Nat.le_of_ble_eq_true rfl) (xfit_of (by omega) (Nat.le_of_ble_eq_true rfl)) (Nat.zero_le _) (Nat.zero_le _) d_Law_clauseAt_5 ?_
  refine x_if_eq 26 d_Law_clauseAt_8 (by decide) (fun c2 => ?_) (fun c2 => ?_)
  · replace h := xpos c2 h
    refine x_iconst (-1) d_Law_clauseAt_26 (by decide) ?_
    obtain rfl := Option.some.inj h
    exact x_ireturn rfl d_Law_clauseAt_27 (Nat.le_refl _) (Nat.le_refl _) ⟨rfl, rfl⟩
  · replace h := xneg c2 h
    refine x_iload_n 1 d_Law_clauseAt_11 rfl rfl ?_
    refine x_bipush 6 d_Law_clauseAt_12 (by decide) ?_
    refine x_icmp_ge 26 d_Law_clauseAt_14 (by decide) (fun c3 => ?_) (fun c3 => ?_)
    · replace h := xpos c3 h
      refine x_iconst (-1) d_Law_clauseAt_26 (by decide) ?_
      obtain rfl := Option.some.inj h
      exact x_ireturn rfl d_Law_clauseAt_27 (Nat.le_refl _) (Nat.le_refl _) ⟨rfl, rfl⟩
    · replace h := xneg c3 h
      refine x_aload_n 0 d_Law_clauseAt_17 rfl rfl ?_
      refine x_getP (q := q0 + 4) f_Law_21 (sh_law hq0) rfl d_Law_clauseAt_18 ?_
      refine x_iload_n 1 d_Law_clauseAt_21 rfl rfl ?_
      obtain ⟨c4, h⟩ := xguard h
      refine x_iaload (sh_law4 hq0) c4 d_Law_clauseAt_22 ?_
      refine x_goto 27 d_Law_clauseAt_23 (by decide) ?_
      obtain rfl := Option.some.inj h
      exact x_ireturn rfl d_Law_clauseAt_27 (Nat.le_refl _) (Nat.le_refl _) ⟨rfl, rfl⟩
-- Ww_reform
def b_Ww_reform_107 (k40 : Int32 → Nat → Int32 → Int32 → Int32 → Int32 → xV → Option (Int32 × xV)) (v1 : Int32) (v2 : Nat) (v3 : Int32) (v4 : Int32) (v5 : Int32) (v6 : Int32) (s0 : Int32) (V : xV) : Option (Int32 × xV) := (if s0 ≤ v5 then k40 v1 v2 v3 v4 v5 (v6 + 1) V else k40 v1 v2 v3 v6 s0 (v6 + 1) V)
theorem tb_Ww_reform_107 {L : xL} (k40 : Int32 → Nat → Int32 → Int32 → Int32 → Int32 → xV → Option (Int32 × xV)) (res : Int32 × xV) (hk40 : ∀ (v1 : Int32) (v2 : Nat) (v3 : Int32) (v4 : Int32) (v5 : Int32) (v6 : Int32) (hv2 : lawB v2 = true) (V : xV), k40 v1 v2 v3 v4 v5 v6 V = some res → X M_Ww_reform (xRm (8) M_Ww_reform) (xZ M_Ww_reform (fun o h' => o = some (.int res.1) ∧ h' = (SH, res.2, L))) SH V L 0 0 40 [(0, .ref 0), (1, .int v1), (2, .ref v2), (3, .int v3), (4, .int v4), (5, .int v5), (6, .int v6)] []) (v1 : Int32) (v2 : Nat) (v3 : Int32) (v4 : Int32) (v5 : Int32) (v6 : Int32) (s0 : Int32) (hv2 : lawB v2 = true) (V : xV) (h : b_Ww_reform_107 k40 v1 v2 v3 v4 v5 v6 s0 V = some res) : X M_Ww_reform (xRm (8) M_Ww_reform) (xZ M_Ww_reform (fun o h' => o = some (.int res.1) ∧ h' = (SH, res.2, L))) SH V L 0 0 107 [(0, .ref 0), (1, .int v1), (2, .ref v2), (3, .int v3), (4, .int v4), (5, .int v5), (6, .int v6)] [.int s0] := by
  unfold b_Ww_reform_107 at h
  refine x_istore [(9, .int s0), (0, .ref 0), (1, .int v1), (2, .ref v2), (3, .int v3), (4, .int v4), (5, .int v5), (6, .int v6)] d_Ww_reform_107 (Nat.le_of_ble_eq_true rfl) rfl ?_
  refine x_iload 0 d_Ww_reform_109 rfl ?_
  refine x_iload 6 d_Ww_reform_111 rfl ?_
  refine x_icmp_le 124 d_Ww_reform_113 (by decide) (fun c18 => ?_) (fun c18 => ?_)
  · replace h := xpos c18 h
    refine x_iinc 7 1 [(6, .int (v6 + 1)), (9, .int s0), (0, .ref 0), (1, .int v1), (2, .ref v2), (3, .int v3), (4, .int v4), (5, .int v5)] d_Ww_reform_124 rfl (by decide) (Nat.le_of_ble_eq_true rfl) rfl ?_
    refine x_goto 40 d_Ww_reform_127 (by decide) ?_
    refine x_pick [2, 3, 4, 5, 6, 7, 0] rfl ?_
    exact hk40 v1 v2 v3 v4 v5 (v6 + 1) hv2 V h
  · replace h := xneg c18 h
    refine x_iload 0 d_Ww_reform_116 rfl ?_
    refine x_istore [(5, .int s0), (9, .int s0), (0, .ref 0), (1, .int v1), (2, .ref v2), (3, .int v3), (4, .int v4), (6, .int v6)] d_Ww_reform_118 (Nat.le_of_ble_eq_true rfl) rfl ?_
    refine x_iload 7 d_Ww_reform_120 rfl ?_
    refine x_istore [(4, .int v6), (5, .int s0), (9, .int s0), (0, .ref 0), (1, .int v1), (2, .ref v2), (3, .int v3), (6, .int v6)] d_Ww_reform_122 (Nat.le_of_ble_eq_true rfl) rfl ?_
    refine x_iinc 7 1 [(6, .int (v6 + 1)), (4, .int v6), (5, .int s0), (9, .int s0), (0, .ref 0), (1, .int v1), (2, .ref v2), (3, .int v3)] d_Ww_reform_124 rfl (by decide) (Nat.le_of_ble_eq_true rfl) rfl ?_
    refine x_goto 40 d_Ww_reform_127 (by decide) ?_
    refine x_pick [4, 5, 6, 7, 1, 2, 0] rfl ?_
    exact hk40 v1 v2 v3 v6 s0 (v6 + 1) hv2 V h
def b_Ww_reform_82 (k40 : Int32 → Nat → Int32 → Int32 → Int32 → Int32 → xV → Option (Int32 × xV)) (v1 : Int32) (v2 : Nat) (v3 : Int32) (v4 : Int32) (v5 : Int32) (v6 : Int32) (s0 : Int32) (V : xV) : Option (Int32 × xV) := (if s0 = 0 then (Option.bind (f_Court_tally (-1) 0 29 0 V) fun p16 => b_Ww_reform_107 k40 v1 v2 v3 v4 v5 v6 (p16.1 - v3) p16.2) else b_Ww_reform_107 k40 v1 v2 v3 v4 v5 v6 0 V)
theorem tb_Ww_reform_82 {L : xL} (k40 : Int32 → Nat → Int32 → Int32 → Int32 → Int32 → xV → Option (Int32 × xV)) (res : Int32 × xV) (hk40 : ∀ (v1 : Int32) (v2 : Nat) (v3 : Int32) (v4 : Int32) (v5 : Int32) (v6 : Int32) (hv2 : lawB v2 = true) (V : xV), k40 v1 v2 v3 v4 v5 v6 V = some res → X M_Ww_reform (xRm (8) M_Ww_reform) (xZ M_Ww_reform (fun o h' => o = some (.int res.1) ∧ h' = (SH, res.2, L))) SH V L 0 0 40 [(0, .ref 0), (1, .int v1), (2, .ref v2), (3, .int v3), (4, .int v4), (5, .int v5), (6, .int v6)] []) (v1 : Int32) (v2 : Nat) (v3 : Int32) (v4 : Int32) (v5 : Int32) (v6 : Int32) (s0 : Int32) (hv2 : lawB v2 = true) (V : xV) (h : b_Ww_reform_82 k40 v1 v2 v3 v4 v5 v6 s0 V = some res) : X M_Ww_reform (xRm (8) M_Ww_reform) (xZ M_Ww_reform (fun o h' => o = some (.int res.1) ∧ h' = (SH, res.2, L))) SH V L 0 0 82 [(0, .ref 0), (1, .int v1), (2, .ref v2), (3, .int v3), (4, .int v4), (5, .int v5), (6, .int v6)] [.int s0] := by
  unfold b_Ww_reform_82 at h
  refine x_istore [(8, .int s0), (0, .ref 0), (1, .int v1), (2, .ref v2), (3, .int v3), (4, .int v4), (5, .int v5), (6, .int v6)] d_Ww_reform_82 (Nat.le_of_ble_eq_true rfl) rfl ?_
  refine x_iload 0 d_Ww_reform_84 rfl ?_
  refine x_if_eq 93 d_Ww_reform_86 (by decide) (fun c15 => ?_) (fun c15 => ?_)
  · replace h := xpos c15 h
    refine x_aload_n 1 d_Ww_reform_93 rfl rfl ?_
    refine x_getP (q := 51) f_Ww_53 sh_0 rfl d_Ww_reform_94 ?_
    refine x_iconst (-1) d_Ww_reform_97 (by decide) ?_
    refine x_iconst 0 d_Ww_reform_98 (by decide) ?_
    refine x_bipush 29 d_Ww_reform_99 (by decide) ?_
    refine x_iconst 0 d_Ww_reform_101 (by decide) ?_
    obtain ⟨p16, e17, h⟩ := xbind h
    refine x_callV0 e_Ww_190 sh_51 rfl (t_Court_tally (-1) 0 29 0 V L _ e17) rfl rfl rfl (Nat.le_of_ble_eq_true rfl) (xfit_of (by omega) (Nat.le_of_ble_eq_true rfl)) (Nat.zero_le _) (Nat.zero_le _) d_Ww_reform_102 ?_
    refine x_iload_n 4 d_Ww_reform_105 rfl rfl ?_
    refine x_isub d_Ww_reform_106 ?_
    refine x_pick [1, 2, 3, 4, 5, 6, 7] rfl ?_
    exact tb_Ww_reform_107 (L := L) k40 res hk40 v1 v2 v3 v4 v5 v6 (p16.1 - v3) hv2 p16.2 h
  · replace h := xneg c15 h
    refine x_iconst 0 d_Ww_reform_89 (by decide) ?_
    refine x_goto 107 d_Ww_reform_90 (by decide) ?_
    refine x_pick [1, 2, 3, 4, 5, 6, 7] rfl ?_
    exact tb_Ww_reform_107 (L := L) k40 res hk40 v1 v2 v3 v4 v5 v6 0 hv2 V h
def b_Ww_reform_40 (k40 : Int32 → Nat → Int32 → Int32 → Int32 → Int32 → xV → Option (Int32 × xV)) (v1 : Int32) (v2 : Nat) (v3 : Int32) (v4 : Int32) (v5 : Int32) (v6 : Int32) (V : xV) : Option (Int32 × xV) := (if (V v2 4) ≤ v6 then (if ¬ v4 = (-1) then (if ¬ v1 = 0 then some (v5, x2 V 51 1 (-1)) else some (v4, x2 V 51 1 (-1))) else some ((-1), x2 V 51 1 (-1))) else (Option.bind (f_Law_clauseAt v2 v6 V) fun p11 => (if p11 = 0 then b_Ww_reform_82 k40 v1 v2 v3 v4 v5 v6 1 (x2 V 51 1 p11) else (if ¬ p11 = 5 then b_Ww_reform_82 k40 v1 v2 v3 v4 v5 v6 0 (x2 V 51 1 p11) else b_Ww_reform_82 k40 v1 v2 v3 v4 v5 v6 1 (x2 V 51 1 p11)))))
theorem tb_Ww_reform_40 {L : xL} (k40 : Int32 → Nat → Int32 → Int32 → Int32 → Int32 → xV → Option (Int32 × xV)) (res : Int32 × xV) (hk40 : ∀ (v1 : Int32) (v2 : Nat) (v3 : Int32) (v4 : Int32) (v5 : Int32) (v6 : Int32) (hv2 : lawB v2 = true) (V : xV), k40 v1 v2 v3 v4 v5 v6 V = some res → X M_Ww_reform (xRm (8) M_Ww_reform) (xZ M_Ww_reform (fun o h' => o = some (.int res.1) ∧ h' = (SH, res.2, L))) SH V L 0 0 40 [(0, .ref 0), (1, .int v1), (2, .ref v2), (3, .int v3), (4, .int v4), (5, .int v5), (6, .int v6)] []) (v1 : Int32) (v2 : Nat) (v3 : Int32) (v4 : Int32) (v5 : Int32) (v6 : Int32) (hv2 : lawB v2 = true) (V : xV) (h : b_Ww_reform_40 k40 v1 v2 v3 v4 v5 v6 V = some res) : X M_Ww_reform (xRm (8) M_Ww_reform) (xZ M_Ww_reform (fun o h' => o = some (.int res.1) ∧ h' = (SH, res.2, L))) SH V L 0 0 40 [(0, .ref 0), (1, .int v1), (2, .ref v2), (3, .int v3), (4, .int v4), (5, .int v5), (6, .int v6)] [] := by
  unfold b_Ww_reform_40 at h
  refine x_iload 6 d_Ww_reform_40 rfl ?_
  refine x_aload_n 2 d_Ww_reform_42 rfl rfl ?_
  refine x_getI f_Ww_233 (sh_law hv2) rfl d_Ww_reform_43 ?_
  refine x_icmp_ge 130 d_Ww_reform_46 (by decide) (fun c8 => ?_) (fun c8 => ?_)
  · replace h := xpos c8 h
    refine x_aload_n 0 d_Ww_reform_130 rfl rfl ?_
    refine x_getP (q := 51) f_Ww_53 sh_0 rfl d_Ww_reform_131 ?_
    refine x_iconst (-1) d_Ww_reform_134 (by decide) ?_
    refine x_putI f_Ww_239 sh_51 rfl rfl rfl d_Ww_reform_135 ?_
    refine x_iload 4 d_Ww_reform_138 rfl ?_
    refine x_iconst (-1) d_Ww_reform_140 (by decide) ?_
    refine x_icmp_ne 146 d_Ww_reform_141 (by decide) (fun c9 => ?_) (fun c9 => ?_)
    · replace h := xpos c9 h
      refine x_iload_n 1 d_Ww_reform_146 rfl rfl ?_
      refine x_if_ne 155 d_Ww_reform_147 (by decide) (fun c10 => ?_) (fun c10 => ?_)
      · replace h := xpos c10 h
        refine x_iload 5 d_Ww_reform_155 rfl ?_
        obtain rfl := Option.some.inj h
        exact x_ireturn rfl d_Ww_reform_157 (Nat.le_refl _) (Nat.le_refl _) ⟨rfl, rfl⟩
      · replace h := xneg c10 h
        refine x_iload 4 d_Ww_reform_150 rfl ?_
        refine x_goto 157 d_Ww_reform_152 (by decide) ?_
        obtain rfl := Option.some.inj h
        exact x_ireturn rfl d_Ww_reform_157 (Nat.le_refl _) (Nat.le_refl _) ⟨rfl, rfl⟩
    · replace h := xneg c9 h
      refine x_iconst (-1) d_Ww_reform_144 (by decide) ?_
      obtain rfl := Option.some.inj h
      exact x_ireturn rfl d_Ww_reform_145 (Nat.le_refl _) (Nat.le_refl _) ⟨rfl, rfl⟩
  · replace h := xneg c8 h
    refine x_aload_n 2 d_Ww_reform_49 rfl rfl ?_
    refine x_iload 6 d_Ww_reform_50 rfl ?_
    obtain ⟨p11, e12, h⟩ := xbind h
    refine x_callV0 e_Ww_236 (sh_law hv2) rfl (t_Law_clauseAt v2 v6 hv2 V L _ e12) rfl rfl rfl (Nat.le_of_ble_eq_true rfl) (xfit_of (by omega) (Nat.le_of_ble_eq_true rfl)) (Nat.zero_le _) (Nat.zero_le _) d_Ww_reform_52 ?_
    refine x_istore [(7, .int p11), (0, .ref 0), (1, .int v1), (2, .ref v2), (3, .int v3), (4, .int v4), (5, .int v5), (6, .int v6)] d_Ww_reform_55 (Nat.le_of_ble_eq_true rfl) rfl ?_
    refine x_aload_n 1 d_Ww_reform_57 rfl rfl ?_
    refine x_getP (q := 51) f_Ww_53 sh_0 rfl d_Ww_reform_58 ?_
    refine x_iload 0 d_Ww_reform_61 rfl ?_
    refine x_putI f_Ww_239 sh_51 rfl rfl rfl d_Ww_reform_63 ?_
    refine x_iload 0 d_Ww_reform_66 rfl ?_
    refine x_if_eq 77 d_Ww_reform_68 (by decide) (fun c13 => ?_) (fun c13 => ?_)
    · replace h := xpos c13 h
      refine x_iconst 1 d_Ww_reform_77 (by decide) ?_
      refine x_goto 82 d_Ww_reform_78 (by decide) ?_
      refine x_pick [1, 2, 3, 4, 5, 6, 7] rfl ?_
      exact tb_Ww_reform_82 (L := L) k40 res hk40 v1 v2 v3 v4 v5 v6 1 hv2 (x2 V 51 1 p11) h
    · replace h := xneg c13 h
      refine x_iload 0 d_Ww_reform_71 rfl ?_
      refine x_iconst 5 d_Ww_reform_73 (by decide) ?_
      refine x_icmp_ne 81 d_Ww_reform_74 (by decide) (fun c14 => ?_) (fun c14 => ?_)
      · replace h := xpos c14 h
        refine x_iconst 0 d_Ww_reform_81 (by decide) ?_
        refine x_pick [1, 2, 3, 4, 5, 6, 7] rfl ?_
        exact tb_Ww_reform_82 (L := L) k40 res hk40 v1 v2 v3 v4 v5 v6 0 hv2 (x2 V 51 1 p11) h
      · replace h := xneg c14 h
        refine x_iconst 1 d_Ww_reform_77 (by decide) ?_
        refine x_goto 82 d_Ww_reform_78 (by decide) ?_
        refine x_pick [1, 2, 3, 4, 5, 6, 7] rfl ?_
        exact tb_Ww_reform_82 (L := L) k40 res hk40 v1 v2 v3 v4 v5 v6 1 hv2 (x2 V 51 1 p11) h
def g_Ww_reform_40  : Nat → Int32 → Nat → Int32 → Int32 → Int32 → Int32 → xV → Option (Int32 × xV)
  | 0, _, _, _, _, _, _, _ => none
  | n + 1, v1, v2, v3, v4, v5, v6, V => b_Ww_reform_40 (g_Ww_reform_40  n) v1 v2 v3 v4 v5 v6 V
theorem tg_Ww_reform_40 {L : xL} (res : Int32 × xV)  : ∀ (n : Nat) (v1 : Int32) (v2 : Nat) (v3 : Int32) (v4 : Int32) (v5 : Int32) (v6 : Int32) (hv2 : lawB v2 = true) (V : xV), g_Ww_reform_40  n v1 v2 v3 v4 v5 v6 V = some res → X M_Ww_reform (xRm (8) M_Ww_reform) (xZ M_Ww_reform (fun o h' => o = some (.int res.1) ∧ h' = (SH, res.2, L))) SH V L 0 0 40 [(0, .ref 0), (1, .int v1), (2, .ref v2), (3, .int v3), (4, .int v4), (5, .int v5), (6, .int v6)] []
  | 0, _, _, _, _, _, _, _, _, h => by cases h
  | n + 1, v1, v2, v3, v4, v5, v6, hv2, V, h => tb_Ww_reform_40 (L := L) (g_Ww_reform_40  n) res (tg_Ww_reform_40 (L := L) res n) v1 v2 v3 v4 v5 v6 hv2 V h
def f_Ww_reform (a1 : Int32) (V : xV) : Option (Int32 × xV) := (if ¬ (f_Ww_within a1 2) = 0 then (Option.bind (f_Shelf_ruling V) fun p3 => (if lawB p3 = true then (Option.bind (f_Court_tally (-1) 0 29 0 V) fun p6 => g_Ww_reform_40 2000 a1 p3 p6.1 (-1) 0 0 p6.2) else none)) else some ((-1), V))
theorem t_Ww_reform (a1 : Int32) (V : xV) (L : xL) (res : Int32 × xV) (h : f_Ww_reform a1 V = some res) : xRuns (8) M_Ww_reform [.ref 0, .int a1] (SH, V, L) (fun o h' => o = some (.int res.1) ∧ h' = (SH, res.2, L)) := by
  refine xRuns_of (by decide) (Nat.le_of_ble_eq_true rfl) ?_
  unfold f_Ww_reform at h
  show X M_Ww_reform (xRm (8) M_Ww_reform) (xZ M_Ww_reform (fun o h' => o = some (.int res.1) ∧ h' = (SH, res.2, L))) SH V L 0 0 0 [(0, .ref 0), (1, .int a1)] []
  refine x_iload_n 1 d_Ww_reform_0 rfl rfl ?_
  refine x_iconst 2 d_Ww_reform_1 (by decide) ?_
  refine x_callS0 e_Ww_80 (t_Ww_within a1 2 V L _ rfl) rfl rfl rfl (Nat.le_of_ble_eq_true rfl) (xfit_of (by omega) (Nat.le_of_ble_eq_true rfl)) (Nat.zero_le _) (Nat.zero_le _) d_Ww_reform_2 ?_
  refine x_if_ne 10 d_Ww_reform_5 (by decide) (fun c2 => ?_) (fun c2 => ?_)
  · replace h := xpos c2 h
    refine x_aload_n 0 d_Ww_reform_10 rfl rfl ?_
    refine x_getP (q := 19) f_Ww_31 sh_0 rfl d_Ww_reform_11 ?_
    obtain ⟨p3, e4, h⟩ := xbind h
    refine x_callV0 e_Ww_141 sh_19 rfl (t_Shelf_ruling V L _ e4) rfl rfl rfl (Nat.le_of_ble_eq_true rfl) (xfit_of (by omega) (Nat.le_of_ble_eq_true rfl)) (Nat.zero_le _) (Nat.zero_le _) d_Ww_reform_14 ?_
    obtain ⟨c5, h⟩ := xguard h
    refine x_astore_n [(2, .ref p3), (0, .ref 0), (1, .int a1)] d_Ww_reform_17 rfl (Nat.le_of_ble_eq_true rfl) rfl ?_
    refine x_aload_n 1 d_Ww_reform_18 rfl rfl ?_
    refine x_getP (q := 51) f_Ww_53 sh_0 rfl d_Ww_reform_19 ?_
    refine x_iconst (-1) d_Ww_reform_22 (by decide) ?_
    refine x_iconst 0 d_Ww_reform_23 (by decide) ?_
    refine x_bipush 29 d_Ww_reform_24 (by decide) ?_
    refine x_iconst 0 d_Ww_reform_26 (by decide) ?_
    obtain ⟨p6, e7, h⟩ := xbind h
    refine x_callV0 e_Ww_190 sh_51 rfl (t_Court_tally (-1) 0 29 0 V L _ e7) rfl rfl rfl (Nat.le_of_ble_eq_true rfl) (xfit_of (by omega) (Nat.le_of_ble_eq_true rfl)) (Nat.zero_le _) (Nat.zero_le _) d_Ww_reform_27 ?_
    refine x_istore_n [(3, .int p6.1), (2, .ref p3), (0, .ref 0), (1, .int a1)] d_Ww_reform_30 rfl (Nat.le_of_ble_eq_true rfl) rfl ?_
    refine x_iconst (-1) d_Ww_reform_31 (by decide) ?_
    refine x_istore [(4, .int (-1)), (3, .int p6.1), (2, .ref p3), (0, .ref 0), (1, .int a1)] d_Ww_reform_32 (Nat.le_of_ble_eq_true rfl) rfl ?_
    refine x_iconst 0 d_Ww_reform_34 (by decide) ?_
    refine x_istore [(5, .int 0), (4, .int (-1)), (3, .int p6.1), (2, .ref p3), (0, .ref 0), (1, .int a1)] d_Ww_reform_35 (Nat.le_of_ble_eq_true rfl) rfl ?_
    refine x_iconst 0 d_Ww_reform_37 (by decide) ?_
    refine x_istore [(6, .int 0), (5, .int 0), (4, .int (-1)), (3, .int p6.1), (2, .ref p3), (0, .ref 0), (1, .int a1)] d_Ww_reform_38 (Nat.le_of_ble_eq_true rfl) rfl ?_
    refine x_pick [5, 6, 4, 3, 2, 1, 0] rfl ?_
    exact tg_Ww_reform_40 (L := L) res _ a1 p3 p6.1 (-1) 0 0 c5 p6.2 h
  · replace h := xneg c2 h
    refine x_iconst (-1) d_Ww_reform_8 (by decide) ?_
    obtain rfl := Option.some.inj h
    exact x_ireturn rfl d_Ww_reform_9 (Nat.le_refl _) (Nat.le_refl _) ⟨rfl, rfl⟩
-- Song_isVowel
def f_Song_isVowel (a0 : Int32) : Int32 := (if a0 = 97 then 1 else (if a0 = 101 then 1 else (if a0 = 105 then 1 else (if a0 = 111 then 1 else (if ¬ a0 = 117 then 0 else 1)))))
theorem t_Song_isVowel (a0 : Int32) (V : xV) (L : xL) (res : Int32) (h : f_Song_isVowel a0 = res) : xRuns (1) M_Song_isVowel [.int a0] (SH, V, L) (fun o h' => o = some (.int res) ∧ h' = (SH, V, L)) := by
  refine xRuns_of (by decide) (Nat.le_of_ble_eq_true rfl) ?_
  unfold f_Song_isVowel at h
  show X M_Song_isVowel (xRm (1) M_Song_isVowel) (xZ M_Song_isVowel (fun o h' => o = some (.int res) ∧ h' = (SH, V, L))) SH V L 0 0 0 [(0, .int a0)] []
  refine x_iload_n 0 d_Song_isVowel_0 rfl rfl ?_
  refine x_bipush 97 d_Song_isVowel_1 (by decide) ?_
  refine x_icmp_eq 30 d_Song_isVowel_3 (by decide) (fun c1 => ?_) (fun c1 => ?_)
  · replace h := xpos c1 h
    refine x_iconst 1 d_Song_isVowel_30 (by decide) ?_
    refine x_goto 35 d_Song_isVowel_31 (by decide) ?_
    obtain rfl := h
    exact x_zreturn rfl rfl d_Song_isVowel_35 (Nat.le_refl _) (Nat.le_refl _) ⟨rfl, rfl⟩
  · replace h := xneg c1 h
    refine x_iload_n 0 d_Song_isVowel_6 rfl rfl ?_
    refine x_bipush 101 d_Song_isVowel_7 (by decide) ?_
    refine x_icmp_eq 30 d_Song_isVowel_9 (by decide) (fun c2 => ?_) (fun c2 => ?_)
    · replace h := xpos c2 h
      refine x_iconst 1 d_Song_isVowel_30 (by decide) ?_
      refine x_goto 35 d_Song_isVowel_31 (by decide) ?_
      obtain rfl := h
      exact x_zreturn rfl rfl d_Song_isVowel_35 (Nat.le_refl _) (Nat.le_refl _) ⟨rfl, rfl⟩
    · replace h := xneg c2 h
      refine x_iload_n 0 d_Song_isVowel_12 rfl rfl ?_
      refine x_bipush 105 d_Song_isVowel_13 (by decide) ?_
      refine x_icmp_eq 30 d_Song_isVowel_15 (by decide) (fun c3 => ?_) (fun c3 => ?_)
      · replace h := xpos c3 h
        refine x_iconst 1 d_Song_isVowel_30 (by decide) ?_
        refine x_goto 35 d_Song_isVowel_31 (by decide) ?_
        obtain rfl := h
        exact x_zreturn rfl rfl d_Song_isVowel_35 (Nat.le_refl _) (Nat.le_refl _) ⟨rfl, rfl⟩
      · replace h := xneg c3 h
        refine x_iload_n 0 d_Song_isVowel_18 rfl rfl ?_
        refine x_bipush 111 d_Song_isVowel_19 (by decide) ?_
        refine x_icmp_eq 30 d_Song_isVowel_21 (by decide) (fun c4 => ?_) (fun c4 => ?_)
        · replace h := xpos c4 h
          refine x_iconst 1 d_Song_isVowel_30 (by decide) ?_
          refine x_goto 35 d_Song_isVowel_31 (by decide) ?_
          obtain rfl := h
          exact x_zreturn rfl rfl d_Song_isVowel_35 (Nat.le_refl _) (Nat.le_refl _) ⟨rfl, rfl⟩
        · replace h := xneg c4 h
          refine x_iload_n 0 d_Song_isVowel_24 rfl rfl ?_
          refine x_bipush 117 d_Song_isVowel_25 (by decide) ?_
          refine x_icmp_ne 34 d_Song_isVowel_27 (by decide) (fun c5 => ?_) (fun c5 => ?_)
          · replace h := xpos c5 h
            refine x_iconst 0 d_Song_isVowel_34 (by decide) ?_
            obtain rfl := h
            exact x_zreturn rfl rfl d_Song_isVowel_35 (Nat.le_refl _) (Nat.le_refl _) ⟨rfl, rfl⟩
          · replace h := xneg c5 h
            refine x_iconst 1 d_Song_isVowel_30 (by decide) ?_
            refine x_goto 35 d_Song_isVowel_31 (by decide) ?_
            obtain rfl := h
            exact x_zreturn rfl rfl d_Song_isVowel_35 (Nat.le_refl _) (Nat.le_refl _) ⟨rfl, rfl⟩
-- Song_read
def b_Song_read_103 (k9 : Int32 → Int32 → xV → Option (Int32 × xV)) (v3 : Int32) (v4 : Int32) (s0 : Int32) (V : xV) : Option (Int32 × xV) := (if (f_Song_isVowel v4) = 0 then k9 s0 (v3 + 1) V else (if (f_Ww_within ((V 63 0) - 1) 300) = 0 then k9 s0 (v3 + 1) V else (if xI ((V 63 0) - 1) 300 = true then (if xI ((V 63 0) - 1) 300 = true then k9 s0 (v3 + 1) (x2 V 64 (((V 63 0) - 1).toNatClampNeg) ((V 64 ((V 63 0) - 1).toNatClampNeg) + 1)) else none) else none)))
theorem tb_Song_read_103 {L : xL} (k9 : Int32 → Int32 → xV → Option (Int32 × xV)) (res : Int32 × xV) (hk9 : ∀ (v2 : Int32) (v3 : Int32) (V : xV), k9 v2 v3 V = some res → X M_Song_read (xRm (3) M_Song_read) (xZ M_Song_read (fun o h' => o = some (.int res.1) ∧ h' = (SH, res.2, L))) SH V L 0 0 9 [(0, .ref 63), (1, .ref 17), (2, .int v2), (3, .int v3)] []) (v3 : Int32) (v4 : Int32) (s0 : Int32) (V : xV) (h : b_Song_read_103 k9 v3 v4 s0 V = some res) : X M_Song_read (xRm (3) M_Song_read) (xZ M_Song_read (fun o h' => o = some (.int res.1) ∧ h' = (SH, res.2, L))) SH V L 0 0 103 [(0, .ref 63), (1, .ref 17), (3, .int v3), (4, .int v4)] [.int s0] := by
  unfold b_Song_read_103 at h
  refine x_istore_n [(2, .int s0), (0, .ref 63), (1, .ref 17), (3, .int v3), (4, .int v4)] d_Song_read_103 rfl (Nat.le_of_ble_eq_true rfl) rfl ?_
  refine x_iload 4 d_Song_read_104 rfl ?_
  refine x_callS0 e_Song_32 (t_Song_isVowel v4 V L _ rfl) rfl rfl rfl (Nat.le_of_ble_eq_true rfl) (xfit_of (by omega) (Nat.le_of_ble_eq_true rfl)) (Nat.zero_le _) (Nat.zero_le _) d_Song_read_106 ?_
  refine x_if_eq 142 d_Song_read_109 (by decide) (fun c18 => ?_) (fun c18 => ?_)
  · replace h := xpos c18 h
    refine x_iinc 3 1 [(3, .int (v3 + 1)), (2, .int s0), (0, .ref 63), (1, .ref 17), (4, .int v4)] d_Song_read_142 rfl (by decide) (Nat.le_of_ble_eq_true rfl) rfl ?_
    refine x_goto 9 d_Song_read_145 (by decide) ?_
    refine x_pick [2, 3, 1, 0] rfl ?_
    exact hk9 s0 (v3 + 1) V h
  · replace h := xneg c18 h
    refine x_aload_n 1 d_Song_read_112 rfl rfl ?_
    refine x_getI f_Song_15 sh_63 rfl d_Song_read_113 ?_
    refine x_iconst 1 d_Song_read_116 (by decide) ?_
    refine x_isub d_Song_read_117 ?_
    refine x_sipush 300 d_Song_read_118 (by decide) ?_
    refine x_callSN0 e_Song_28 (t_Ww_within ((V 63 0) - 1) 300 V L _ rfl) rfl rfl rfl (Nat.le_of_ble_eq_true rfl) (xfit_of (by omega) (Nat.le_of_ble_eq_true rfl)) (Nat.zero_le _) (Nat.zero_le _) d_Song_read_121 ?_
    refine x_if_eq 142 d_Song_read_124 (by decide) (fun c20 => ?_) (fun c20 => ?_)
    · replace h := xpos c20 h
      refine x_iinc 3 1 [(3, .int (v3 + 1)), (2, .int s0), (0, .ref 63), (1, .ref 17), (4, .int v4)] d_Song_read_142 rfl (by decide) (Nat.le_of_ble_eq_true rfl) rfl ?_
      refine x_goto 9 d_Song_read_145 (by decide) ?_
      refine x_pick [2, 3, 1, 0] rfl ?_
      exact hk9 s0 (v3 + 1) V h
    · replace h := xneg c20 h
      refine x_aload_n 1 d_Song_read_127 rfl rfl ?_
      refine x_getP (q := 64) f_Song_9 sh_63 rfl d_Song_read_128 ?_
      refine x_aload_n 1 d_Song_read_131 rfl rfl ?_
      refine x_getI f_Song_15 sh_63 rfl d_Song_read_132 ?_
      refine x_iconst 1 d_Song_read_135 (by decide) ?_
      refine x_isub d_Song_read_136 ?_
      refine x_dup2 d_Song_read_137 rfl rfl ?_
      obtain ⟨c21, h⟩ := xguard h
      refine x_iaload sh_64 c21 d_Song_read_138 ?_
      refine x_iconst 1 d_Song_read_139 (by decide) ?_
      refine x_iadd d_Song_read_140 ?_
      obtain ⟨c22, h⟩ := xguard h
      refine x_iastore sh_64 c22 d_Song_read_141 ?_
      refine x_iinc 3 1 [(3, .int (v3 + 1)), (2, .int s0), (0, .ref 63), (1, .ref 17), (4, .int v4)] d_Song_read_142 rfl (by decide) (Nat.le_of_ble_eq_true rfl) rfl ?_
      refine x_goto 9 d_Song_read_145 (by decide) ?_
      refine x_pick [2, 3, 1, 0] rfl ?_
      exact hk9 s0 (v3 + 1) (x2 V 64 (((V 63 0) - 1).toNatClampNeg) ((V 64 ((V 63 0) - 1).toNatClampNeg) + 1)) h
def b_Song_read_47 (k9 : Int32 → Int32 → xV → Option (Int32 × xV)) (v2 : Int32) (v3 : Int32) (v4 : Int32) (V : xV) : Option (Int32 × xV) := (if v4 = 32 then (if v4 = 32 then b_Song_read_103 k9 v3 v4 0 V else b_Song_read_103 k9 v3 v4 1 V) else (if ¬ v2 = 0 then (if v4 = 32 then b_Song_read_103 k9 v3 v4 0 V else b_Song_read_103 k9 v3 v4 1 V) else (if (f_Ww_within (V 63 0) 300) = 0 then (if v4 = 32 then b_Song_read_103 k9 v3 v4 0 V else b_Song_read_103 k9 v3 v4 1 V) else (if xI (V 63 0) 300 = true then (if v4 = 32 then b_Song_read_103 k9 v3 v4 0 (x2 (x2 V 64 ((V 63 0).toNatClampNeg) 0) 63 0 (((x2 V 64 ((V 63 0).toNatClampNeg) 0) 63 0) + 1)) else b_Song_read_103 k9 v3 v4 1 (x2 (x2 V 64 ((V 63 0).toNatClampNeg) 0) 63 0 (((x2 V 64 ((V 63 0).toNatClampNeg) 0) 63 0) + 1))) else none))))
theorem tb_Song_read_47 {L : xL} (k9 : Int32 → Int32 → xV → Option (Int32 × xV)) (res : Int32 × xV) (hk9 : ∀ (v2 : Int32) (v3 : Int32) (V : xV), k9 v2 v3 V = some res → X M_Song_read (xRm (3) M_Song_read) (xZ M_Song_read (fun o h' => o = some (.int res.1) ∧ h' = (SH, res.2, L))) SH V L 0 0 9 [(0, .ref 63), (1, .ref 17), (2, .int v2), (3, .int v3)] []) (v2 : Int32) (v3 : Int32) (v4 : Int32) (V : xV) (h : b_Song_read_47 k9 v2 v3 v4 V = some res) : X M_Song_read (xRm (3) M_Song_read) (xZ M_Song_read (fun o h' => o = some (.int res.1) ∧ h' = (SH, res.2, L))) SH V L 0 0 47 [(0, .ref 63), (1, .ref 17), (2, .int v2), (3, .int v3), (4, .int v4)] [] := by
  unfold b_Song_read_47 at h
  refine x_iload 4 d_Song_read_47 rfl ?_
  refine x_bipush 32 d_Song_read_49 (by decide) ?_
  refine x_icmp_eq 91 d_Song_read_51 (by decide) (fun c8 => ?_) (fun c8 => ?_)
  · replace h := xpos c8 h
    refine x_iload 4 d_Song_read_91 rfl ?_
    refine x_bipush 32 d_Song_read_93 (by decide) ?_
    refine x_icmp_eq 102 d_Song_read_95 (by decide) (fun c9 => ?_) (fun c9 => ?_)
    · replace h := xpos c9 h
      refine x_iconst 0 d_Song_read_102 (by decide) ?_
      refine x_pick [0, 1, 3, 4] rfl ?_
      exact tb_Song_read_103 (L := L) k9 res hk9 v3 v4 0 V h
    · replace h := xneg c9 h
      refine x_iconst 1 d_Song_read_98 (by decide) ?_
      refine x_goto 103 d_Song_read_99 (by decide) ?_
      refine x_pick [0, 1, 3, 4] rfl ?_
      exact tb_Song_read_103 (L := L) k9 res hk9 v3 v4 1 V h
  · replace h := xneg c8 h
    refine x_iload_n 2 d_Song_read_54 rfl rfl ?_
    refine x_if_ne 91 d_Song_read_55 (by decide) (fun c10 => ?_) (fun c10 => ?_)
    · replace h := xpos c10 h
      refine x_iload 4 d_Song_read_91 rfl ?_
      refine x_bipush 32 d_Song_read_93 (by decide) ?_
      refine x_icmp_eq 102 d_Song_read_95 (by decide) (fun c11 => ?_) (fun c11 => ?_)
      · replace h := xpos c11 h
        refine x_iconst 0 d_Song_read_102 (by decide) ?_
        refine x_pick [0, 1, 3, 4] rfl ?_
        exact tb_Song_read_103 (L := L) k9 res hk9 v3 v4 0 V h
      · replace h := xneg c11 h
        refine x_iconst 1 d_Song_read_98 (by decide) ?_
        refine x_goto 103 d_Song_read_99 (by decide) ?_
        refine x_pick [0, 1, 3, 4] rfl ?_
        exact tb_Song_read_103 (L := L) k9 res hk9 v3 v4 1 V h
    · replace h := xneg c10 h
      refine x_aload_n 0 d_Song_read_58 rfl rfl ?_
      refine x_getI f_Song_15 sh_63 rfl d_Song_read_59 ?_
      refine x_sipush 300 d_Song_read_62 (by decide) ?_
      refine x_callSN0 e_Song_28 (t_Ww_within (V 63 0) 300 V L _ rfl) rfl rfl rfl (Nat.le_of_ble_eq_true rfl) (xfit_of (by omega) (Nat.le_of_ble_eq_true rfl)) (Nat.zero_le _) (Nat.zero_le _) d_Song_read_65 ?_
      refine x_if_eq 91 d_Song_read_68 (by decide) (fun c13 => ?_) (fun c13 => ?_)
      · replace h := xpos c13 h
        refine x_iload 4 d_Song_read_91 rfl ?_
        refine x_bipush 32 d_Song_read_93 (by decide) ?_
        refine x_icmp_eq 102 d_Song_read_95 (by decide) (fun c14 => ?_) (fun c14 => ?_)
        · replace h := xpos c14 h
          refine x_iconst 0 d_Song_read_102 (by decide) ?_
          refine x_pick [0, 1, 3, 4] rfl ?_
          exact tb_Song_read_103 (L := L) k9 res hk9 v3 v4 0 V h
        · replace h := xneg c14 h
          refine x_iconst 1 d_Song_read_98 (by decide) ?_
          refine x_goto 103 d_Song_read_99 (by decide) ?_
          refine x_pick [0, 1, 3, 4] rfl ?_
          exact tb_Song_read_103 (L := L) k9 res hk9 v3 v4 1 V h
      · replace h := xneg c13 h
        refine x_aload_n 0 d_Song_read_71 rfl rfl ?_
        refine x_getP (q := 64) f_Song_9 sh_63 rfl d_Song_read_72 ?_
        refine x_aload_n 0 d_Song_read_75 rfl rfl ?_
        refine x_getI f_Song_15 sh_63 rfl d_Song_read_76 ?_
        refine x_iconst 0 d_Song_read_79 (by decide) ?_
        obtain ⟨c15, h⟩ := xguard h
        refine x_iastore sh_64 c15 d_Song_read_80 ?_
        refine x_aload_n 0 d_Song_read_81 rfl rfl ?_
        refine x_dup d_Song_read_82 rfl ?_
        refine x_getI f_Song_15 sh_63 rfl d_Song_read_83 ?_
        refine x_iconst 1 d_Song_read_86 (by decide) ?_
        refine x_iadd d_Song_read_87 ?_
        refine x_putI f_Song_15 sh_63 rfl rfl rfl d_Song_read_88 ?_
        refine x_iload 4 d_Song_read_91 rfl ?_
        refine x_bipush 32 d_Song_read_93 (by decide) ?_
        refine x_icmp_eq 102 d_Song_read_95 (by decide) (fun c16 => ?_) (fun c16 => ?_)
        · replace h := xpos c16 h
          refine x_iconst 0 d_Song_read_102 (by decide) ?_
          refine x_pick [0, 1, 3, 4] rfl ?_
          exact tb_Song_read_103 (L := L) k9 res hk9 v3 v4 0 (x2 (x2 V 64 ((V 63 0).toNatClampNeg) 0) 63 0 (((x2 V 64 ((V 63 0).toNatClampNeg) 0) 63 0) + 1)) h
        · replace h := xneg c16 h
          refine x_iconst 1 d_Song_read_98 (by decide) ?_
          refine x_goto 103 d_Song_read_99 (by decide) ?_
          refine x_pick [0, 1, 3, 4] rfl ?_
          exact tb_Song_read_103 (L := L) k9 res hk9 v3 v4 1 (x2 (x2 V 64 ((V 63 0).toNatClampNeg) 0) 63 0 (((x2 V 64 ((V 63 0).toNatClampNeg) 0) 63 0) + 1)) h
def b_Song_read_9 (k9 : Int32 → Int32 → xV → Option (Int32 × xV)) (v2 : Int32) (v3 : Int32) (V : xV) : Option (Int32 × xV) := (if (V 17 1) ≤ v3 then (if (V 63 0) ≤ 0 then some (0, V) else some (1, V)) else (Option.bind (f_Tape_at v3 V) fun p3 => (if p3 = 32 then b_Song_read_47 k9 v2 v3 p3 V else (if p3 < 97 then some (0, V) else (if p3 ≤ 122 then b_Song_read_47 k9 v2 v3 p3 V else some (0, V))))))
theorem tb_Song_read_9 {L : xL} (k9 : Int32 → Int32 → xV → Option (Int32 × xV)) (res : Int32 × xV) (hk9 : ∀ (v2 : Int32) (v3 : Int32) (V : xV), k9 v2 v3 V = some res → X M_Song_read (xRm (3) M_Song_read) (xZ M_Song_read (fun o h' => o = some (.int res.1) ∧ h' = (SH, res.2, L))) SH V L 0 0 9 [(0, .ref 63), (1, .ref 17), (2, .int v2), (3, .int v3)] []) (v2 : Int32) (v3 : Int32) (V : xV) (h : b_Song_read_9 k9 v2 v3 V = some res) : X M_Song_read (xRm (3) M_Song_read) (xZ M_Song_read (fun o h' => o = some (.int res.1) ∧ h' = (SH, res.2, L))) SH V L 0 0 9 [(0, .ref 63), (1, .ref 17), (2, .int v2), (3, .int v3)] [] := by
  unfold b_Song_read_9 at h
  refine x_iload_n 3 d_Song_read_9 rfl rfl ?_
  refine x_aload_n 1 d_Song_read_10 rfl rfl ?_
  refine x_getI f_Song_19 sh_17 rfl d_Song_read_11 ?_
  refine x_icmp_ge 148 d_Song_read_14 (by decide) (fun c1 => ?_) (fun c1 => ?_)
  · replace h := xpos c1 h
    refine x_aload_n 0 d_Song_read_148 rfl rfl ?_
    refine x_getI f_Song_15 sh_63 rfl d_Song_read_149 ?_
    refine x_if_le 159 d_Song_read_152 (by decide) (fun c2 => ?_) (fun c2 => ?_)
    · replace h := xpos c2 h
      refine x_iconst 0 d_Song_read_159 (by decide) ?_
      obtain rfl := Option.some.inj h
      exact x_zreturn rfl rfl d_Song_read_160 (Nat.le_refl _) (Nat.le_refl _) ⟨rfl, rfl⟩
    · replace h := xneg c2 h
      refine x_iconst 1 d_Song_read_155 (by decide) ?_
      refine x_goto 160 d_Song_read_156 (by decide) ?_
      obtain rfl := Option.some.inj h
      exact x_zreturn rfl rfl d_Song_read_160 (Nat.le_refl _) (Nat.le_refl _) ⟨rfl, rfl⟩
  · replace h := xneg c1 h
    refine x_aload_n 1 d_Song_read_17 rfl rfl ?_
    refine x_iload_n 3 d_Song_read_18 rfl rfl ?_
    obtain ⟨p3, e4, h⟩ := xbind h
    refine x_callV0 e_Song_24 sh_17 rfl (t_Tape_at v3 V L _ e4) rfl rfl rfl (Nat.le_of_ble_eq_true rfl) (xfit_of (by omega) (Nat.le_of_ble_eq_true rfl)) (Nat.zero_le _) (Nat.zero_le _) d_Song_read_19 ?_
    refine x_istore [(4, .int p3), (0, .ref 63), (1, .ref 17), (2, .int v2), (3, .int v3)] d_Song_read_22 (Nat.le_of_ble_eq_true rfl) rfl ?_
    refine x_iload 0 d_Song_read_24 rfl ?_
    refine x_bipush 32 d_Song_read_26 (by decide) ?_
    refine x_icmp_eq 47 d_Song_read_28 (by decide) (fun c5 => ?_) (fun c5 => ?_)
    · replace h := xpos c5 h
      refine x_pick [1, 2, 3, 4, 0] rfl ?_
      exact tb_Song_read_47 (L := L) k9 res hk9 v2 v3 p3 V h
    · replace h := xneg c5 h
      refine x_iload 0 d_Song_read_31 rfl ?_
      refine x_bipush 97 d_Song_read_33 (by decide) ?_
      refine x_icmp_lt 45 d_Song_read_35 (by decide) (fun c6 => ?_) (fun c6 => ?_)
      · replace h := xpos c6 h
        refine x_iconst 0 d_Song_read_45 (by decide) ?_
        obtain rfl := Option.some.inj h
        exact x_zreturn rfl rfl d_Song_read_46 (Nat.le_refl _) (Nat.le_refl _) ⟨rfl, rfl⟩
      · replace h := xneg c6 h
        refine x_iload 0 d_Song_read_38 rfl ?_
        refine x_bipush 122 d_Song_read_40 (by decide) ?_
        refine x_icmp_le 47 d_Song_read_42 (by decide) (fun c7 => ?_) (fun c7 => ?_)
        · replace h := xpos c7 h
          refine x_pick [1, 2, 3, 4, 0] rfl ?_
          exact tb_Song_read_47 (L := L) k9 res hk9 v2 v3 p3 V h
        · replace h := xneg c7 h
          refine x_iconst 0 d_Song_read_45 (by decide) ?_
          obtain rfl := Option.some.inj h
          exact x_zreturn rfl rfl d_Song_read_46 (Nat.le_refl _) (Nat.le_refl _) ⟨rfl, rfl⟩
def g_Song_read_9  : Nat → Int32 → Int32 → xV → Option (Int32 × xV)
  | 0, _, _, _ => none
  | n + 1, v2, v3, V => b_Song_read_9 (g_Song_read_9  n) v2 v3 V
theorem tg_Song_read_9 {L : xL} (res : Int32 × xV)  : ∀ (n : Nat) (v2 : Int32) (v3 : Int32) (V : xV), g_Song_read_9  n v2 v3 V = some res → X M_Song_read (xRm (3) M_Song_read) (xZ M_Song_read (fun o h' => o = some (.int res.1) ∧ h' = (SH, res.2, L))) SH V L 0 0 9 [(0, .ref 63), (1, .ref 17), (2, .int v2), (3, .int v3)] []
  | 0, _, _, _, h => by cases h
  | n + 1, v2, v3, V, h => tb_Song_read_9 (L := L) (g_Song_read_9  n) res (tg_Song_read_9 (L := L) res n) v2 v3 V h
def f_Song_read (V : xV) : Option (Int32 × xV) := g_Song_read_9 2000 0 0 (x2 V 63 0 0)
theorem t_Song_read  (V : xV) (L : xL) (res : Int32 × xV) (h : f_Song_read V = some res) : xRuns (3) M_Song_read [.ref 63, .ref 17] (SH, V, L) (fun o h' => o = some (.int res.1) ∧ h' = (SH, res.2, L)) := by
  refine xRuns_of (by decide) (Nat.le_of_ble_eq_true rfl) ?_
  unfold f_Song_read at h
  show X M_Song_read (xRm (3) M_Song_read) (xZ M_Song_read (fun o h' => o = some (.int res.1) ∧ h' = (SH, res.2, L))) SH V L 0 0 0 [(0, .ref 63), (1, .ref 17)] []
  refine x_aload_n 0 d_Song_read_0 rfl rfl ?_
  refine x_iconst 0 d_Song_read_1 (by decide) ?_
  refine x_putI f_Song_15 sh_63 rfl rfl rfl d_Song_read_2 ?_
  refine x_iconst 0 d_Song_read_5 (by decide) ?_
  refine x_istore_n [(2, .int 0), (0, .ref 63), (1, .ref 17)] d_Song_read_6 rfl (Nat.le_of_ble_eq_true rfl) rfl ?_
  refine x_iconst 0 d_Song_read_7 (by decide) ?_
  refine x_istore_n [(3, .int 0), (2, .int 0), (0, .ref 63), (1, .ref 17)] d_Song_read_8 rfl (Nat.le_of_ble_eq_true rfl) rfl ?_
  refine x_pick [2, 3, 1, 0] rfl ?_
  exact tg_Song_read_9 (L := L) res _ 0 0 (x2 V 63 0 0) h
-- Ww_songFits
def f_Ww_songFits (a1 : Int32) (a2 : Int32) (V : xV) : Option (Int32 × xV) := (if (f_Ww_within a1 30) = 0 then some (0, V) else (if (f_Ww_within a2 10) = 0 then some (0, V) else (Option.bind (f_Song_read V) fun p5 => (if p5.1 = 0 then some (0, p5.2) else (if 30 < (a1 + (p5.2 63 0)) then some (0, p5.2) else some (1, p5.2))))))
theorem t_Ww_songFits (a1 : Int32) (a2 : Int32) (V : xV) (L : xL) (res : Int32 × xV) (h : f_Ww_songFits a1 a2 V = some res) : xRuns (4) M_Ww_songFits [.ref 0, .int a1, .int a2] (SH, V, L) (fun o h' => o = some (.int res.1) ∧ h' = (SH, res.2, L)) := by
  refine xRuns_of (by decide) (Nat.le_of_ble_eq_true rfl) ?_
  unfold f_Ww_songFits at h
  show X M_Ww_songFits (xRm (4) M_Ww_songFits) (xZ M_Ww_songFits (fun o h' => o = some (.int res.1) ∧ h' = (SH, res.2, L))) SH V L 0 0 0 [(0, .ref 0), (1, .int a1), (2, .int a2)] []
  refine x_iload_n 1 d_Ww_songFits_0 rfl rfl ?_
  refine x_bipush 30 d_Ww_songFits_1 (by decide) ?_
  refine x_callS0 e_Ww_80 (t_Ww_within a1 30 V L _ rfl) rfl rfl rfl (Nat.le_of_ble_eq_true rfl) (xfit_of (by omega) (Nat.le_of_ble_eq_true rfl)) (Nat.zero_le _) (Nat.zero_le _) d_Ww_songFits_3 ?_
  refine x_if_eq 50 d_Ww_songFits_6 (by decide) (fun c2 => ?_) (fun c2 => ?_)
  · replace h := xpos c2 h
    refine x_iconst 0 d_Ww_songFits_50 (by decide) ?_
    obtain rfl := Option.some.inj h
    exact x_zreturn rfl rfl d_Ww_songFits_51 (Nat.le_refl _) (Nat.le_refl _) ⟨rfl, rfl⟩
  · replace h := xneg c2 h
    refine x_iload_n 2 d_Ww_songFits_9 rfl rfl ?_
    refine x_bipush 10 d_Ww_songFits_10 (by decide) ?_
    refine x_callS0 e_Ww_80 (t_Ww_within a2 10 V L _ rfl) rfl rfl rfl (Nat.le_of_ble_eq_true rfl) (xfit_of (by omega) (Nat.le_of_ble_eq_true rfl)) (Nat.zero_le _) (Nat.zero_le _) d_Ww_songFits_12 ?_
    refine x_if_eq 50 d_Ww_songFits_15 (by decide) (fun c4 => ?_) (fun c4 => ?_)
    · replace h := xpos c4 h
      refine x_iconst 0 d_Ww_songFits_50 (by decide) ?_
      obtain rfl := Option.some.inj h
      exact x_zreturn rfl rfl d_Ww_songFits_51 (Nat.le_refl _) (Nat.le_refl _) ⟨rfl, rfl⟩
    · replace h := xneg c4 h
      refine x_aload_n 0 d_Ww_songFits_18 rfl rfl ?_
      refine x_getP (q := 63) f_Ww_76 sh_0 rfl d_Ww_songFits_19 ?_
      refine x_aload_n 0 d_Ww_songFits_22 rfl rfl ?_
      refine x_getP (q := 17) f_Ww_22 sh_0 rfl d_Ww_songFits_23 ?_
      obtain ⟨p5, e6, h⟩ := xbind h
      refine x_callV0 e_Ww_263 sh_63 rfl (t_Song_read V L _ e6) rfl rfl rfl (Nat.le_of_ble_eq_true rfl) (xfit_of (by omega) (Nat.le_of_ble_eq_true rfl)) (Nat.zero_le _) (Nat.zero_le _) d_Ww_songFits_26 ?_
      refine x_if_eq 50 d_Ww_songFits_29 (by decide) (fun c7 => ?_) (fun c7 => ?_)
      · replace h := xpos c7 h
        refine x_iconst 0 d_Ww_songFits_50 (by decide) ?_
        obtain rfl := Option.some.inj h
        exact x_zreturn rfl rfl d_Ww_songFits_51 (Nat.le_refl _) (Nat.le_refl _) ⟨rfl, rfl⟩
      · replace h := xneg c7 h
        refine x_iload_n 1 d_Ww_songFits_32 rfl rfl ?_
        refine x_aload_n 0 d_Ww_songFits_33 rfl rfl ?_
        refine x_getP (q := 63) f_Ww_76 sh_0 rfl d_Ww_songFits_34 ?_
        refine x_getI f_Ww_245 sh_63 rfl d_Ww_songFits_37 ?_
        refine x_iadd d_Ww_songFits_40 ?_
        refine x_bipush 30 d_Ww_songFits_41 (by decide) ?_
        refine x_icmp_gt 50 d_Ww_songFits_43 (by decide) (fun c8 => ?_) (fun c8 => ?_)
        · replace h := xpos c8 h
          refine x_iconst 0 d_Ww_songFits_50 (by decide) ?_
          obtain rfl := Option.some.inj h
          exact x_zreturn rfl rfl d_Ww_songFits_51 (Nat.le_refl _) (Nat.le_refl _) ⟨rfl, rfl⟩
        · replace h := xneg c8 h
          refine x_iconst 1 d_Ww_songFits_46 (by decide) ?_
          refine x_goto 51 d_Ww_songFits_47 (by decide) ?_
          obtain rfl := Option.some.inj h
          exact x_zreturn rfl rfl d_Ww_songFits_51 (Nat.le_refl _) (Nat.le_refl _) ⟨rfl, rfl⟩
-- Song_skyOf
def f_Song_skyOf (a1 : Int32) (a2 : Int32) (V : xV) : Option (Int32) := (if (f_Ww_within a1 300) = 0 then some 0 else (if xI a1 300 = true then some (xrem ((V 64 a1.toNatClampNeg) + a2) 10) else none))
theorem t_Song_skyOf (a1 : Int32) (a2 : Int32) (V : xV) (L : xL) (res : Int32) (h : f_Song_skyOf a1 a2 V = some res) : xRuns (2) M_Song_skyOf [.ref 63, .int a1, .int a2] (SH, V, L) (fun o h' => o = some (.int res) ∧ h' = (SH, V, L)) := by
  refine xRuns_of (by decide) (Nat.le_of_ble_eq_true rfl) ?_
  unfold f_Song_skyOf at h
  show X M_Song_skyOf (xRm (2) M_Song_skyOf) (xZ M_Song_skyOf (fun o h' => o = some (.int res) ∧ h' = (SH, V, L))) SH V L 0 0 0 [(0, .ref 63), (1, .int a1), (2, .int a2)] []
  refine x_iload_n 1 d_Song_skyOf_0 rfl rfl ?_
  refine x_sipush 300 d_Song_skyOf_1 (by decide) ?_
  refine x_callSN0 e_Song_28 (t_Ww_within a1 300 V L _ rfl) rfl rfl rfl (Nat.le_of_ble_eq_true rfl) (xfit_of (by omega) (Nat.le_of_ble_eq_true rfl)) (Nat.zero_le _) (Nat.zero_le _) d_Song_skyOf_4 ?_
  refine x_if_eq 24 d_Song_skyOf_7 (by decide) (fun c2 => ?_) (fun c2 => ?_)
  · replace h := xpos c2 h
    refine x_iconst 0 d_Song_skyOf_24 (by decide) ?_
    obtain rfl := Option.some.inj h
    exact x_ireturn rfl d_Song_skyOf_25 (Nat.le_refl _) (Nat.le_refl _) ⟨rfl, rfl⟩
  · replace h := xneg c2 h
    refine x_aload_n 0 d_Song_skyOf_10 rfl rfl ?_
    refine x_getP (q := 64) f_Song_9 sh_63 rfl d_Song_skyOf_11 ?_
    refine x_iload_n 1 d_Song_skyOf_14 rfl rfl ?_
    obtain ⟨c3, h⟩ := xguard h
    refine x_iaload sh_64 c3 d_Song_skyOf_15 ?_
    refine x_iload_n 2 d_Song_skyOf_16 rfl rfl ?_
    refine x_iadd d_Song_skyOf_17 ?_
    refine x_bipush 10 d_Song_skyOf_18 (by decide) ?_
    refine x_irem2 d_Song_skyOf_20 (by decide) ?_
    refine x_goto 25 d_Song_skyOf_21 (by decide) ?_
    obtain rfl := Option.some.inj h
    exact x_ireturn rfl d_Song_skyOf_25 (Nat.le_refl _) (Nat.le_refl _) ⟨rfl, rfl⟩
-- Ww_sing
def b_Ww_sing_13 (k13 : Int32 → Int32 → Int32 → xV → Option (Int32 × xV)) (v1 : Int32) (v2 : Int32) (v3 : Int32) (V : xV) : Option (Int32 × xV) := (if (V 63 0) ≤ v3 then some ((x2 V 17 1 0) 63 0, x2 V 17 1 0) else (if (f_Ww_within (v1 + v3) 30) = 0 then some ((x2 V 17 1 0) 63 0, x2 V 17 1 0) else (Option.bind (f_Song_skyOf v3 v2 V) fun p7 => (if xI (v1 + v3) 30 = true then k13 v1 v2 (v3 + 1) (x2 V 5 ((v1 + v3).toNatClampNeg) p7) else none))))
theorem tb_Ww_sing_13 {L : xL} (k13 : Int32 → Int32 → Int32 → xV → Option (Int32 × xV)) (res : Int32 × xV) (hk13 : ∀ (v1 : Int32) (v2 : Int32) (v3 : Int32) (V : xV), k13 v1 v2 v3 V = some res → X M_Ww_sing (xRm (5) M_Ww_sing) (xZ M_Ww_sing (fun o h' => o = some (.int res.1) ∧ h' = (SH, res.2, L))) SH V L 0 0 13 [(0, .ref 0), (1, .int v1), (2, .int v2), (3, .int v3)] []) (v1 : Int32) (v2 : Int32) (v3 : Int32) (V : xV) (h : b_Ww_sing_13 k13 v1 v2 v3 V = some res) : X M_Ww_sing (xRm (5) M_Ww_sing) (xZ M_Ww_sing (fun o h' => o = some (.int res.1) ∧ h' = (SH, res.2, L))) SH V L 0 0 13 [(0, .ref 0), (1, .int v1), (2, .int v2), (3, .int v3)] [] := by
  unfold b_Ww_sing_13 at h
  refine x_iload_n 3 d_Ww_sing_13 rfl rfl ?_
  refine x_aload_n 0 d_Ww_sing_14 rfl rfl ?_
  refine x_getP (q := 63) f_Ww_76 sh_0 rfl d_Ww_sing_15 ?_
  refine x_getI f_Ww_245 sh_63 rfl d_Ww_sing_18 ?_
  refine x_icmp_ge 61 d_Ww_sing_21 (by decide) (fun c4 => ?_) (fun c4 => ?_)
  · replace h := xpos c4 h
    refine x_aload_n 0 d_Ww_sing_61 rfl rfl ?_
    refine x_getP (q := 17) f_Ww_22 sh_0 rfl d_Ww_sing_62 ?_
    refine x_iconst 0 d_Ww_sing_65 (by decide) ?_
    refine x_putI f_Ww_107 sh_17 rfl rfl rfl d_Ww_sing_66 ?_
    refine x_aload_n 0 d_Ww_sing_69 rfl rfl ?_
    refine x_getP (q := 63) f_Ww_76 sh_0 rfl d_Ww_sing_70 ?_
    refine x_getI f_Ww_245 sh_63 rfl d_Ww_sing_73 ?_
    obtain rfl := Option.some.inj h
    exact x_ireturn rfl d_Ww_sing_76 (Nat.le_refl _) (Nat.le_refl _) ⟨rfl, rfl⟩
  · replace h := xneg c4 h
    refine x_iload_n 1 d_Ww_sing_24 rfl rfl ?_
    refine x_iload_n 3 d_Ww_sing_25 rfl rfl ?_
    refine x_iadd d_Ww_sing_26 ?_
    refine x_bipush 30 d_Ww_sing_27 (by decide) ?_
    refine x_callS0 e_Ww_80 (t_Ww_within (v1 + v3) 30 V L _ rfl) rfl rfl rfl (Nat.le_of_ble_eq_true rfl) (xfit_of (by omega) (Nat.le_of_ble_eq_true rfl)) (Nat.zero_le _) (Nat.zero_le _) d_Ww_sing_29 ?_
    refine x_if_eq 61 d_Ww_sing_32 (by decide) (fun c6 => ?_) (fun c6 => ?_)
    · replace h := xpos c6 h
      refine x_aload_n 0 d_Ww_sing_61 rfl rfl ?_
      refine x_getP (q := 17) f_Ww_22 sh_0 rfl d_Ww_sing_62 ?_
      refine x_iconst 0 d_Ww_sing_65 (by decide) ?_
      refine x_putI f_Ww_107 sh_17 rfl rfl rfl d_Ww_sing_66 ?_
      refine x_aload_n 0 d_Ww_sing_69 rfl rfl ?_
      refine x_getP (q := 63) f_Ww_76 sh_0 rfl d_Ww_sing_70 ?_
      refine x_getI f_Ww_245 sh_63 rfl d_Ww_sing_73 ?_
      obtain rfl := Option.some.inj h
      exact x_ireturn rfl d_Ww_sing_76 (Nat.le_refl _) (Nat.le_refl _) ⟨rfl, rfl⟩
    · replace h := xneg c6 h
      refine x_aload_n 0 d_Ww_sing_35 rfl rfl ?_
      refine x_getP (q := 1) f_Ww_10 sh_0 rfl d_Ww_sing_36 ?_
      refine x_getP (q := 5) f_Ww_88 sh_1 rfl d_Ww_sing_39 ?_
      refine x_iload_n 1 d_Ww_sing_42 rfl rfl ?_
      refine x_iload_n 3 d_Ww_sing_43 rfl rfl ?_
      refine x_iadd d_Ww_sing_44 ?_
      refine x_aload_n 0 d_Ww_sing_45 rfl rfl ?_
      refine x_getP (q := 63) f_Ww_76 sh_0 rfl d_Ww_sing_46 ?_
      refine x_iload_n 3 d_Ww_sing_49 rfl rfl ?_
      refine x_iload_n 2 d_Ww_sing_50 rfl rfl ?_
      obtain ⟨p7, e8, h⟩ := xbind h
      refine x_callV0 e_Ww_248 sh_63 rfl (t_Song_skyOf v3 v2 V L _ e8) rfl rfl rfl (Nat.le_of_ble_eq_true rfl) (xfit_of (by omega) (Nat.le_of_ble_eq_true rfl)) (Nat.zero_le _) (Nat.zero_le _) d_Ww_sing_51 ?_
      obtain ⟨c9, h⟩ := xguard h
      refine x_iastore sh_5 c9 d_Ww_sing_54 ?_
      refine x_iinc 3 1 [(3, .int (v3 + 1)), (0, .ref 0), (1, .int v1), (2, .int v2)] d_Ww_sing_55 rfl (by decide) (Nat.le_of_ble_eq_true rfl) rfl ?_
      refine x_goto 13 d_Ww_sing_58 (by decide) ?_
      refine x_pick [1, 2, 3, 0] rfl ?_
      exact hk13 v1 v2 (v3 + 1) (x2 V 5 ((v1 + v3).toNatClampNeg) p7) h
def g_Ww_sing_13  : Nat → Int32 → Int32 → Int32 → xV → Option (Int32 × xV)
  | 0, _, _, _, _ => none
  | n + 1, v1, v2, v3, V => b_Ww_sing_13 (g_Ww_sing_13  n) v1 v2 v3 V
theorem tg_Ww_sing_13 {L : xL} (res : Int32 × xV)  : ∀ (n : Nat) (v1 : Int32) (v2 : Int32) (v3 : Int32) (V : xV), g_Ww_sing_13  n v1 v2 v3 V = some res → X M_Ww_sing (xRm (5) M_Ww_sing) (xZ M_Ww_sing (fun o h' => o = some (.int res.1) ∧ h' = (SH, res.2, L))) SH V L 0 0 13 [(0, .ref 0), (1, .int v1), (2, .int v2), (3, .int v3)] []
  | 0, _, _, _, _, h => by cases h
  | n + 1, v1, v2, v3, V, h => tb_Ww_sing_13 (L := L) (g_Ww_sing_13  n) res (tg_Ww_sing_13 (L := L) res n) v1 v2 v3 V h
def f_Ww_sing (a1 : Int32) (a2 : Int32) (V : xV) : Option (Int32 × xV) := (Option.bind (f_Ww_songFits a1 a2 V) fun p1 => (if ¬ p1.1 = 0 then g_Ww_sing_13 2000 a1 a2 0 p1.2 else some ((-1), p1.2)))
theorem t_Ww_sing (a1 : Int32) (a2 : Int32) (V : xV) (L : xL) (res : Int32 × xV) (h : f_Ww_sing a1 a2 V = some res) : xRuns (5) M_Ww_sing [.ref 0, .int a1, .int a2] (SH, V, L) (fun o h' => o = some (.int res.1) ∧ h' = (SH, res.2, L)) := by
  refine xRuns_of (by decide) (Nat.le_of_ble_eq_true rfl) ?_
  unfold f_Ww_sing at h
  show X M_Ww_sing (xRm (5) M_Ww_sing) (xZ M_Ww_sing (fun o h' => o = some (.int res.1) ∧ h' = (SH, res.2, L))) SH V L 0 0 0 [(0, .ref 0), (1, .int a1), (2, .int a2)] []
  refine x_aload_n 0 d_Ww_sing_0 rfl rfl ?_
  refine x_iload_n 1 d_Ww_sing_1 rfl rfl ?_
  refine x_iload_n 2 d_Ww_sing_2 rfl rfl ?_
  obtain ⟨p1, e2, h⟩ := xbind h
  refine x_callV0 e_Ww_242 sh_0 rfl (t_Ww_songFits a1 a2 V L _ e2) rfl rfl rfl (Nat.le_of_ble_eq_true rfl) (xfit_of (by omega) (Nat.le_of_ble_eq_true rfl)) (Nat.zero_le _) (Nat.zero_le _) d_Ww_sing_3 ?_
  refine x_if_ne 11 d_Ww_sing_6 (by decide) (fun c3 => ?_) (fun c3 => ?_)
  · replace h := xpos c3 h
    refine x_iconst 0 d_Ww_sing_11 (by decide) ?_
    refine x_istore_n [(3, .int 0), (0, .ref 0), (1, .int a1), (2, .int a2)] d_Ww_sing_12 rfl (Nat.le_of_ble_eq_true rfl) rfl ?_
    refine x_pick [1, 2, 3, 0] rfl ?_
    exact tg_Ww_sing_13 (L := L) res _ a1 a2 0 p1.2 h
  · replace h := xneg c3 h
    refine x_iconst (-1) d_Ww_sing_9 (by decide) ?_
    obtain rfl := Option.some.inj h
    exact x_ireturn rfl d_Ww_sing_10 (Nat.le_refl _) (Nat.le_refl _) ⟨rfl, rfl⟩
-- Ww_heard
def b_Ww_heard_16 (k16 : Int32 → Int32 → Int32 → Int32 → xV → Option (Int32 × xV)) (v1 : Int32) (v2 : Int32) (v3 : Int32) (v4 : Int32) (V : xV) : Option (Int32 × xV) := (if (V 63 0) ≤ v4 then some (v3, V) else (if (f_Ww_within (v1 + v4) 30) = 0 then some (v3, V) else (if xI (v1 + v4) 30 = true then (Option.bind (f_Song_skyOf v4 v2 V) fun p8 => (if ¬ (V 5 (v1 + v4).toNatClampNeg) = p8 then k16 v1 v2 v3 (v4 + 1) V else k16 v1 v2 (v3 + 1) (v4 + 1) V)) else none)))
theorem tb_Ww_heard_16 {L : xL} (k16 : Int32 → Int32 → Int32 → Int32 → xV → Option (Int32 × xV)) (res : Int32 × xV) (hk16 : ∀ (v1 : Int32) (v2 : Int32) (v3 : Int32) (v4 : Int32) (V : xV), k16 v1 v2 v3 v4 V = some res → X M_Ww_heard (xRm (5) M_Ww_heard) (xZ M_Ww_heard (fun o h' => o = some (.int res.1) ∧ h' = (SH, res.2, L))) SH V L 0 0 16 [(0, .ref 0), (1, .int v1), (2, .int v2), (3, .int v3), (4, .int v4)] []) (v1 : Int32) (v2 : Int32) (v3 : Int32) (v4 : Int32) (V : xV) (h : b_Ww_heard_16 k16 v1 v2 v3 v4 V = some res) : X M_Ww_heard (xRm (5) M_Ww_heard) (xZ M_Ww_heard (fun o h' => o = some (.int res.1) ∧ h' = (SH, res.2, L))) SH V L 0 0 16 [(0, .ref 0), (1, .int v1), (2, .int v2), (3, .int v3), (4, .int v4)] [] := by
  unfold b_Ww_heard_16 at h
  refine x_iload 4 d_Ww_heard_16 rfl ?_
  refine x_aload_n 0 d_Ww_heard_18 rfl rfl ?_
  refine x_getP (q := 63) f_Ww_76 sh_0 rfl d_Ww_heard_19 ?_
  refine x_getI f_Ww_245 sh_63 rfl d_Ww_heard_22 ?_
  refine x_icmp_ge 74 d_Ww_heard_25 (by decide) (fun c4 => ?_) (fun c4 => ?_)
  · replace h := xpos c4 h
    refine x_iload_n 3 d_Ww_heard_74 rfl rfl ?_
    obtain rfl := Option.some.inj h
    exact x_ireturn rfl d_Ww_heard_75 (Nat.le_refl _) (Nat.le_refl _) ⟨rfl, rfl⟩
  · replace h := xneg c4 h
    refine x_iload_n 1 d_Ww_heard_28 rfl rfl ?_
    refine x_iload 4 d_Ww_heard_29 rfl ?_
    refine x_iadd d_Ww_heard_31 ?_
    refine x_bipush 30 d_Ww_heard_32 (by decide) ?_
    refine x_callS0 e_Ww_80 (t_Ww_within (v1 + v4) 30 V L _ rfl) rfl rfl rfl (Nat.le_of_ble_eq_true rfl) (xfit_of (by omega) (Nat.le_of_ble_eq_true rfl)) (Nat.zero_le _) (Nat.zero_le _) d_Ww_heard_34 ?_
    refine x_if_eq 74 d_Ww_heard_37 (by decide) (fun c6 => ?_) (fun c6 => ?_)
    · replace h := xpos c6 h
      refine x_iload_n 3 d_Ww_heard_74 rfl rfl ?_
      obtain rfl := Option.some.inj h
      exact x_ireturn rfl d_Ww_heard_75 (Nat.le_refl _) (Nat.le_refl _) ⟨rfl, rfl⟩
    · replace h := xneg c6 h
      refine x_aload_n 0 d_Ww_heard_40 rfl rfl ?_
      refine x_getP (q := 1) f_Ww_10 sh_0 rfl d_Ww_heard_41 ?_
      refine x_getP (q := 5) f_Ww_88 sh_1 rfl d_Ww_heard_44 ?_
      refine x_iload_n 1 d_Ww_heard_47 rfl rfl ?_
      refine x_iload 4 d_Ww_heard_48 rfl ?_
      refine x_iadd d_Ww_heard_50 ?_
      obtain ⟨c7, h⟩ := xguard h
      refine x_iaload sh_5 c7 d_Ww_heard_51 ?_
      refine x_aload_n 0 d_Ww_heard_52 rfl rfl ?_
      refine x_getP (q := 63) f_Ww_76 sh_0 rfl d_Ww_heard_53 ?_
      refine x_iload 4 d_Ww_heard_56 rfl ?_
      refine x_iload_n 2 d_Ww_heard_58 rfl rfl ?_
      obtain ⟨p8, e9, h⟩ := xbind h
      refine x_callV0 e_Ww_248 sh_63 rfl (t_Song_skyOf v4 v2 V L _ e9) rfl rfl rfl (Nat.le_of_ble_eq_true rfl) (xfit_of (by omega) (Nat.le_of_ble_eq_true rfl)) (Nat.zero_le _) (Nat.zero_le _) d_Ww_heard_59 ?_
      refine x_icmp_ne 68 d_Ww_heard_62 (by decide) (fun c10 => ?_) (fun c10 => ?_)
      · replace h := xpos c10 h
        refine x_iinc 4 1 [(4, .int (v4 + 1)), (0, .ref 0), (1, .int v1), (2, .int v2), (3, .int v3)] d_Ww_heard_68 rfl (by decide) (Nat.le_of_ble_eq_true rfl) rfl ?_
        refine x_goto 16 d_Ww_heard_71 (by decide) ?_
        refine x_pick [1, 2, 3, 4, 0] rfl ?_
        exact hk16 v1 v2 v3 (v4 + 1) V h
      · replace h := xneg c10 h
        refine x_iinc 3 1 [(3, .int (v3 + 1)), (0, .ref 0), (1, .int v1), (2, .int v2), (4, .int v4)] d_Ww_heard_65 rfl (by decide) (Nat.le_of_ble_eq_true rfl) rfl ?_
        refine x_iinc 4 1 [(4, .int (v4 + 1)), (3, .int (v3 + 1)), (0, .ref 0), (1, .int v1), (2, .int v2)] d_Ww_heard_68 rfl (by decide) (Nat.le_of_ble_eq_true rfl) rfl ?_
        refine x_goto 16 d_Ww_heard_71 (by decide) ?_
        refine x_pick [2, 3, 4, 1, 0] rfl ?_
        exact hk16 v1 v2 (v3 + 1) (v4 + 1) V h
def g_Ww_heard_16  : Nat → Int32 → Int32 → Int32 → Int32 → xV → Option (Int32 × xV)
  | 0, _, _, _, _, _ => none
  | n + 1, v1, v2, v3, v4, V => b_Ww_heard_16 (g_Ww_heard_16  n) v1 v2 v3 v4 V
theorem tg_Ww_heard_16 {L : xL} (res : Int32 × xV)  : ∀ (n : Nat) (v1 : Int32) (v2 : Int32) (v3 : Int32) (v4 : Int32) (V : xV), g_Ww_heard_16  n v1 v2 v3 v4 V = some res → X M_Ww_heard (xRm (5) M_Ww_heard) (xZ M_Ww_heard (fun o h' => o = some (.int res.1) ∧ h' = (SH, res.2, L))) SH V L 0 0 16 [(0, .ref 0), (1, .int v1), (2, .int v2), (3, .int v3), (4, .int v4)] []
  | 0, _, _, _, _, _, h => by cases h
  | n + 1, v1, v2, v3, v4, V, h => tb_Ww_heard_16 (L := L) (g_Ww_heard_16  n) res (tg_Ww_heard_16 (L := L) res n) v1 v2 v3 v4 V h
def f_Ww_heard (a1 : Int32) (a2 : Int32) (V : xV) : Option (Int32 × xV) := (Option.bind (f_Ww_songFits a1 a2 V) fun p1 => (if ¬ p1.1 = 0 then g_Ww_heard_16 2000 a1 a2 0 0 p1.2 else some ((-1), p1.2)))
theorem t_Ww_heard (a1 : Int32) (a2 : Int32) (V : xV) (L : xL) (res : Int32 × xV) (h : f_Ww_heard a1 a2 V = some res) : xRuns (5) M_Ww_heard [.ref 0, .int a1, .int a2] (SH, V, L) (fun o h' => o = some (.int res.1) ∧ h' = (SH, res.2, L)) := by
  refine xRuns_of (by decide) (Nat.le_of_ble_eq_true rfl) ?_
  unfold f_Ww_heard at h
  show X M_Ww_heard (xRm (5) M_Ww_heard) (xZ M_Ww_heard (fun o h' => o = some (.int res.1) ∧ h' = (SH, res.2, L))) SH V L 0 0 0 [(0, .ref 0), (1, .int a1), (2, .int a2)] []
  refine x_aload_n 0 d_Ww_heard_0 rfl rfl ?_
  refine x_iload_n 1 d_Ww_heard_1 rfl rfl ?_
  refine x_iload_n 2 d_Ww_heard_2 rfl rfl ?_
  obtain ⟨p1, e2, h⟩ := xbind h
  refine x_callV0 e_Ww_242 sh_0 rfl (t_Ww_songFits a1 a2 V L _ e2) rfl rfl rfl (Nat.le_of_ble_eq_true rfl) (xfit_of (by omega) (Nat.le_of_ble_eq_true rfl)) (Nat.zero_le _) (Nat.zero_le _) d_Ww_heard_3 ?_
  refine x_if_ne 11 d_Ww_heard_6 (by decide) (fun c3 => ?_) (fun c3 => ?_)
  · replace h := xpos c3 h
    refine x_iconst 0 d_Ww_heard_11 (by decide) ?_
    refine x_istore_n [(3, .int 0), (0, .ref 0), (1, .int a1), (2, .int a2)] d_Ww_heard_12 rfl (Nat.le_of_ble_eq_true rfl) rfl ?_
    refine x_iconst 0 d_Ww_heard_13 (by decide) ?_
    refine x_istore [(4, .int 0), (3, .int 0), (0, .ref 0), (1, .int a1), (2, .int a2)] d_Ww_heard_14 (Nat.le_of_ble_eq_true rfl) rfl ?_
    refine x_pick [2, 3, 4, 1, 0] rfl ?_
    exact tg_Ww_heard_16 (L := L) res _ a1 a2 0 0 p1.2 h
  · replace h := xneg c3 h
    refine x_iconst (-1) d_Ww_heard_9 (by decide) ?_
    obtain rfl := Option.some.inj h
    exact x_ireturn rfl d_Ww_heard_10 (Nat.le_refl _) (Nat.le_refl _) ⟨rfl, rfl⟩
-- Rolls_takeOver_kept
def f_Rolls_takeOver_kept (V : xV) : xV := (x2 (x2 (x2 (x2 (x2 (x2 (xcopy (xcopy (xcopy (xcopy (xcopy (xcopy (xcopy V 2 10 12) 3 11 12) 4 12 12) 5 13 30) 6 14 120) 7 15 10) 8 16 60) 9 7 ((xcopy (xcopy (xcopy (xcopy (xcopy (xcopy (xcopy V 2 10 12) 3 11 12) 4 12 12) 5 13 30) 6 14 120) 7 15 10) 8 16 60) 1 7)) 9 8 ((x2 (xcopy (xcopy (xcopy (xcopy (xcopy (xcopy (xcopy V 2 10 12) 3 11 12) 4 12 12) 5 13 30) 6 14 120) 7 15 10) 8 16 60) 9 7 ((xcopy (xcopy (xcopy (xcopy (xcopy (xcopy (xcopy V 2 10 12) 3 11 12) 4 12 12) 5 13 30) 6 14 120) 7 15 10) 8 16 60) 1 7)) 1 8)) 9 9 ((x2 (x2 (xcopy (xcopy (xcopy (xcopy (xcopy (xcopy (xcopy V 2 10 12) 3 11 12) 4 12 12) 5 13 30) 6 14 120) 7 15 10) 8 16 60) 9 7 ((xcopy (xcopy (xcopy (xcopy (xcopy (xcopy (xcopy V 2 10 12) 3 11 12) 4 12 12) 5 13 30) 6 14 120) 7 15 10) 8 16 60) 1 7)) 9 8 ((x2 (xcopy (xcopy (xcopy (xcopy (xcopy (xcopy (xcopy V 2 10 12) 3 11 12) 4 12 12) 5 13 30) 6 14 120) 7 15 10) 8 16 60) 9 7 ((xcopy (xcopy (xcopy (xcopy (xcopy (xcopy (xcopy V 2 10 12) 3 11 12) 4 12 12) 5 13 30) 6 14 120) 7 15 10) 8 16 60) 1 7)) 1 8)) 1 9)) 9 10 ((x2 (x2 (x2 (xcopy (xcopy (xcopy (xcopy (xcopy (xcopy (xcopy V 2 10 12) 3 11 12) 4 12 12) 5 13 30) 6 14 120) 7 15 10) 8 16 60) 9 7 ((xcopy (xcopy (xcopy (xcopy (xcopy (xcopy (xcopy V 2 10 12) 3 11 12) 4 12 12) 5 13 30) 6 14 120) 7 15 10) 8 16 60) 1 7)) 9 8 ((x2 (xcopy (xcopy (xcopy (xcopy (xcopy (xcopy (xcopy V 2 10 12) 3 11 12) 4 12 12) 5 13 30) 6 14 120) 7 15 10) 8 16 60) 9 7 ((xcopy (xcopy (xcopy (xcopy (xcopy (xcopy (xcopy V 2 10 12) 3 11 12) 4 12 12) 5 13 30) 6 14 120) 7 15 10) 8 16 60) 1 7)) 1 8)) 9 9 ((x2 (x2 (xcopy (xcopy (xcopy (xcopy (xcopy (xcopy (xcopy V 2 10 12) 3 11 12) 4 12 12) 5 13 30) 6 14 120) 7 15 10) 8 16 60) 9 7 ((xcopy (xcopy (xcopy (xcopy (xcopy (xcopy (xcopy V 2 10 12) 3 11 12) 4 12 12) 5 13 30) 6 14 120) 7 15 10) 8 16 60) 1 7)) 9 8 ((x2 (xcopy (xcopy (xcopy (xcopy (xcopy (xcopy (xcopy V 2 10 12) 3 11 12) 4 12 12) 5 13 30) 6 14 120) 7 15 10) 8 16 60) 9 7 ((xcopy (xcopy (xcopy (xcopy (xcopy (xcopy (xcopy V 2 10 12) 3 11 12) 4 12 12) 5 13 30) 6 14 120) 7 15 10) 8 16 60) 1 7)) 1 8)) 1 9)) 1 10)) 9 11 ((x2 (x2 (x2 (x2 (xcopy (xcopy (xcopy (xcopy (xcopy (xcopy (xcopy V 2 10 12) 3 11 12) 4 12 12) 5 13 30) 6 14 120) 7 15 10) 8 16 60) 9 7 ((xcopy (xcopy (xcopy (xcopy (xcopy (xcopy (xcopy V 2 10 12) 3 11 12) 4 12 12) 5 13 30) 6 14 120) 7 15 10) 8 16 60) 1 7)) 9 8 ((x2 (xcopy (xcopy (xcopy (xcopy (xcopy (xcopy (xcopy V 2 10 12) 3 11 12) 4 12 12) 5 13 30) 6 14 120) 7 15 10) 8 16 60) 9 7 ((xcopy (xcopy (xcopy (xcopy (xcopy (xcopy (xcopy V 2 10 12) 3 11 12) 4 12 12) 5 13 30) 6 14 120) 7 15 10) 8 16 60) 1 7)) 1 8)) 9 9 ((x2 (x2 (xcopy (xcopy (xcopy (xcopy (xcopy (xcopy (xcopy V 2 10 12) 3 11 12) 4 12 12) 5 13 30) 6 14 120) 7 15 10) 8 16 60) 9 7 ((xcopy (xcopy (xcopy (xcopy (xcopy (xcopy (xcopy V 2 10 12) 3 11 12) 4 12 12) 5 13 30) 6 14 120) 7 15 10) 8 16 60) 1 7)) 9 8 ((x2 (xcopy (xcopy (xcopy (xcopy (xcopy (xcopy (xcopy V 2 10 12) 3 11 12) 4 12 12) 5 13 30) 6 14 120) 7 15 10) 8 16 60) 9 7 ((xcopy (xcopy (xcopy (xcopy (xcopy (xcopy (xcopy V 2 10 12) 3 11 12) 4 12 12) 5 13 30) 6 14 120) 7 15 10) 8 16 60) 1 7)) 1 8)) 1 9)) 9 10 ((x2 (x2 (x2 (xcopy (xcopy (xcopy (xcopy (xcopy (xcopy (xcopy V 2 10 12) 3 11 12) 4 12 12) 5 13 30) 6 14 120) 7 15 10) 8 16 60) 9 7 ((xcopy (xcopy (xcopy (xcopy (xcopy (xcopy (xcopy V 2 10 12) 3 11 12) 4 12 12) 5 13 30) 6 14 120) 7 15 10) 8 16 60) 1 7)) 9 8 ((x2 (xcopy (xcopy (xcopy (xcopy (xcopy (xcopy (xcopy V 2 10 12) 3 11 12) 4 12 12) 5 13 30) 6 14 120) 7 15 10) 8 16 60) 9 7 ((xcopy (xcopy (xcopy (xcopy (xcopy (xcopy (xcopy V 2 10 12) 3 11 12) 4 12 12) 5 13 30) 6 14 120) 7 15 10) 8 16 60) 1 7)) 1 8)) 9 9 ((x2 (x2 (xcopy (xcopy (xcopy (xcopy (xcopy (xcopy (xcopy V 2 10 12) 3 11 12) 4 12 12) 5 13 30) 6 14 120) 7 15 10) 8 16 60) 9 7 ((xcopy (xcopy (xcopy (xcopy (xcopy (xcopy (xcopy V 2 10 12) 3 11 12) 4 12 12) 5 13 30) 6 14 120) 7 15 10) 8 16 60) 1 7)) 9 8 ((x2 (xcopy (xcopy (xcopy (xcopy (xcopy (xcopy (xcopy V 2 10 12) 3 11 12) 4 12 12) 5 13 30) 6 14 120) 7 15 10) 8 16 60) 9 7 ((xcopy (xcopy (xcopy (xcopy (xcopy (xcopy (xcopy V 2 10 12) 3 11 12) 4 12 12) 5 13 30) 6 14 120) 7 15 10) 8 16 60) 1 7)) 1 8)) 1 9)) 1 10)) 1 11)) 9 12 ((x2 (x2 (x2 (x2 (x2 (xcopy (xcopy (xcopy (xcopy (xcopy (xcopy (xcopy V 2 10 12) 3 11 12) 4 12 12) 5 13 30) 6 14 120) 7 15 10) 8 16 60) 9 7 ((xcopy (xcopy (xcopy (xcopy (xcopy (xcopy (xcopy V 2 10 12) 3 11 12) 4 12 12) 5 13 30) 6 14 120) 7 15 10) 8 16 60) 1 7)) 9 8 ((x2 (xcopy (xcopy (xcopy (xcopy (xcopy (xcopy (xcopy V 2 10 12) 3 11 12) 4 12 12) 5 13 30) 6 14 120) 7 15 10) 8 16 60) 9 7 ((xcopy (xcopy (xcopy (xcopy (xcopy (xcopy (xcopy V 2 10 12) 3 11 12) 4 12 12) 5 13 30) 6 14 120) 7 15 10) 8 16 60) 1 7)) 1 8)) 9 9 ((x2 (x2 (xcopy (xcopy (xcopy (xcopy (xcopy (xcopy (xcopy V 2 10 12) 3 11 12) 4 12 12) 5 13 30) 6 14 120) 7 15 10) 8 16 60) 9 7 ((xcopy (xcopy (xcopy (xcopy (xcopy (xcopy (xcopy V 2 10 12) 3 11 12) 4 12 12) 5 13 30) 6 14 120) 7 15 10) 8 16 60) 1 7)) 9 8 ((x2 (xcopy (xcopy (xcopy (xcopy (xcopy (xcopy (xcopy V 2 10 12) 3 11 12) 4 12 12) 5 13 30) 6 14 120) 7 15 10) 8 16 60) 9 7 ((xcopy (xcopy (xcopy (xcopy (xcopy (xcopy (xcopy V 2 10 12) 3 11 12) 4 12 12) 5 13 30) 6 14 120) 7 15 10) 8 16 60) 1 7)) 1 8)) 1 9)) 9 10 ((x2 (x2 (x2 (xcopy (xcopy (xcopy (xcopy (xcopy (xcopy (xcopy V 2 10 12) 3 11 12) 4 12 12) 5 13 30) 6 14 120) 7 15 10) 8 16 60) 9 7 ((xcopy (xcopy (xcopy (xcopy (xcopy (xcopy (xcopy V 2 10 12) 3 11 12) 4 12 12) 5 13 30) 6 14 120) 7 15 10) 8 16 60) 1 7)) 9 8 ((x2 (xcopy (xcopy (xcopy (xcopy (xcopy (xcopy (xcopy V 2 10 12) 3 11 12) 4 12 12) 5 13 30) 6 14 120) 7 15 10) 8 16 60) 9 7 ((xcopy (xcopy (xcopy (xcopy (xcopy (xcopy (xcopy V 2 10 12) 3 11 12) 4 12 12) 5 13 30) 6 14 120) 7 15 10) 8 16 60) 1 7)) 1 8)) 9 9 ((x2 (x2 (xcopy (xcopy (xcopy (xcopy (xcopy (xcopy (xcopy V 2 10 12) 3 11 12) 4 12 12) 5 13 30) 6 14 120) 7 15 10) 8 16 60) 9 7 ((xcopy (xcopy (xcopy (xcopy (xcopy (xcopy (xcopy V 2 10 12) 3 11 12) 4 12 12) 5 13 30) 6 14 120) 7 15 10) 8 16 60) 1 7)) 9 8 ((x2 (xcopy (xcopy (xcopy (xcopy (xcopy (xcopy (xcopy V 2 10 12) 3 11 12) 4 12 12) 5 13 30) 6 14 120) 7 15 10) 8 16 60) 9 7 ((xcopy (xcopy (xcopy (xcopy (xcopy (xcopy (xcopy V 2 10 12) 3 11 12) 4 12 12) 5 13 30) 6 14 120) 7 15 10) 8 16 60) 1 7)) 1 8)) 1 9)) 1 10)) 9 11 ((x2 (x2 (x2 (x2 (xcopy (xcopy (xcopy (xcopy (xcopy (xcopy (xcopy V 2 10 12) 3 11 12) 4 12 12) 5 13 30) 6 14 120) 7 15 10) 8 16 60) 9 7 ((xcopy (xcopy (xcopy (xcopy (xcopy (xcopy (xcopy V 2 10 12) 3 11 12) 4 12 12) 5 13 30) 6 14 120) 7 15 10) 8 16 60) 1 7)) 9 8 ((x2 (xcopy (xcopy (xcopy (xcopy (xcopy (xcopy (xcopy V 2 10 12) 3 11 12) 4 12 12) 5 13 30) 6 14 120) 7 15 10) 8 16 60) 9 7 ((xcopy (xcopy (xcopy (xcopy (xcopy (xcopy (xcopy V 2 10 12) 3 11 12) 4 12 12) 5 13 30) 6 14 120) 7 15 10) 8 16 60) 1 7)) 1 8)) 9 9 ((x2 (x2 (xcopy (xcopy (xcopy (xcopy (xcopy (xcopy (xcopy V 2 10 12) 3 11 12) 4 12 12) 5 13 30) 6 14 120) 7 15 10) 8 16 60) 9 7 ((xcopy (xcopy (xcopy (xcopy (xcopy (xcopy (xcopy V 2 10 12) 3 11 12) 4 12 12) 5 13 30) 6 14 120) 7 15 10) 8 16 60) 1 7)) 9 8 ((x2 (xcopy (xcopy (xcopy (xcopy (xcopy (xcopy (xcopy V 2 10 12) 3 11 12) 4 12 12) 5 13 30) 6 14 120) 7 15 10) 8 16 60) 9 7 ((xcopy (xcopy (xcopy (xcopy (xcopy (xcopy (xcopy V 2 10 12) 3 11 12) 4 12 12) 5 13 30) 6 14 120) 7 15 10) 8 16 60) 1 7)) 1 8)) 1 9)) 9 10 ((x2 (x2 (x2 (xcopy (xcopy (xcopy (xcopy (xcopy (xcopy (xcopy V 2 10 12) 3 11 12) 4 12 12) 5 13 30) 6 14 120) 7 15 10) 8 16 60) 9 7 ((xcopy (xcopy (xcopy (xcopy (xcopy (xcopy (xcopy V 2 10 12) 3 11 12) 4 12 12) 5 13 30) 6 14 120) 7 15 10) 8 16 60) 1 7)) 9 8 ((x2 (xcopy (xcopy (xcopy (xcopy (xcopy (xcopy (xcopy V 2 10 12) 3 11 12) 4 12 12) 5 13 30) 6 14 120) 7 15 10) 8 16 60) 9 7 ((xcopy (xcopy (xcopy (xcopy (xcopy (xcopy (xcopy V 2 10 12) 3 11 12) 4 12 12) 5 13 30) 6 14 120) 7 15 10) 8 16 60) 1 7)) 1 8)) 9 9 ((x2 (x2 (xcopy (xcopy (xcopy (xcopy (xcopy (xcopy (xcopy V 2 10 12) 3 11 12) 4 12 12) 5 13 30) 6 14 120) 7 15 10) 8 16 60) 9 7 ((xcopy (xcopy (xcopy (xcopy (xcopy (xcopy (xcopy V 2 10 12) 3 11 12) 4 12 12) 5 13 30) 6 14 120) 7 15 10) 8 16 60) 1 7)) 9 8 ((x2 (xcopy (xcopy (xcopy (xcopy (xcopy (xcopy (xcopy V 2 10 12) 3 11 12) 4 12 12) 5 13 30) 6 14 120) 7 15 10) 8 16 60) 9 7 ((xcopy (xcopy (xcopy (xcopy (xcopy (xcopy (xcopy V 2 10 12) 3 11 12) 4 12 12) 5 13 30) 6 14 120) 7 15 10) 8 16 60) 1 7)) 1 8)) 1 9)) 1 10)) 1 11)) 1 12))
theorem t_Rolls_takeOver_kept  (V : xV) (L : xL) (res : xV) (h : f_Rolls_takeOver_kept V = res) : xRuns (1) M_Rolls_takeOver [.ref 9, .ref 1] (SH, V, L) (fun o h' => o = none ∧ h' = (SH, res, L)) := by
  refine xRuns_of (by decide) (Nat.le_of_ble_eq_true rfl) ?_
  unfold f_Rolls_takeOver_kept at h
  show X M_Rolls_takeOver (xRm (1) M_Rolls_takeOver) (xZ M_Rolls_takeOver (fun o h' => o = none ∧ h' = (SH, res, L))) SH V L 0 0 0 [(0, .ref 9), (1, .ref 1)] []
  refine x_aload_n 1 d_Rolls_takeOver_0 rfl rfl ?_
  refine x_getP (q := 2) f_Rolls_9 sh_1 rfl d_Rolls_takeOver_1 ?_
  refine x_iconst 0 d_Rolls_takeOver_4 (by decide) ?_
  refine x_aload_n 0 d_Rolls_takeOver_5 rfl rfl ?_
  refine x_getP (q := 10) f_Rolls_9 sh_9 rfl d_Rolls_takeOver_6 ?_
  refine x_iconst 0 d_Rolls_takeOver_9 (by decide) ?_
  refine x_bipush 12 d_Rolls_takeOver_10 (by decide) ?_
  refine x_copy0 li_Rolls_43 (xlib_of (by omega)) (Nat.le_of_ble_eq_true rfl) sh_2 sh_10 12 (by decide) d_Rolls_takeOver_12 ?_
  refine x_aload_n 1 d_Rolls_takeOver_15 rfl rfl ?_
  refine x_getP (q := 3) f_Rolls_15 sh_1 rfl d_Rolls_takeOver_16 ?_
  refine x_iconst 0 d_Rolls_takeOver_19 (by decide) ?_
  refine x_aload_n 0 d_Rolls_takeOver_20 rfl rfl ?_
  refine x_getP (q := 11) f_Rolls_15 sh_9 rfl d_Rolls_takeOver_21 ?_
  refine x_iconst 0 d_Rolls_takeOver_24 (by decide) ?_
  refine x_bipush 12 d_Rolls_takeOver_25 (by decide) ?_
  refine x_copy0 li_Rolls_43 (xlib_of (by omega)) (Nat.le_of_ble_eq_true rfl) sh_3 sh_11 12 (by decide) d_Rolls_takeOver_27 ?_
  refine x_aload_n 1 d_Rolls_takeOver_30 rfl rfl ?_
  refine x_getP (q := 4) f_Rolls_18 sh_1 rfl d_Rolls_takeOver_31 ?_
  refine x_iconst 0 d_Rolls_takeOver_34 (by decide) ?_
  refine x_aload_n 0 d_Rolls_takeOver_35 rfl rfl ?_
  refine x_getP (q := 12) f_Rolls_18 sh_9 rfl d_Rolls_takeOver_36 ?_
  refine x_iconst 0 d_Rolls_takeOver_39 (by decide) ?_
  refine x_bipush 12 d_Rolls_takeOver_40 (by decide) ?_
  refine x_copy0 li_Rolls_43 (xlib_of (by omega)) (Nat.le_of_ble_eq_true rfl) sh_4 sh_12 12 (by decide) d_Rolls_takeOver_42 ?_
  refine x_aload_n 1 d_Rolls_takeOver_45 rfl rfl ?_
  refine x_getP (q := 5) f_Rolls_21 sh_1 rfl d_Rolls_takeOver_46 ?_
  refine x_iconst 0 d_Rolls_takeOver_49 (by decide) ?_
  refine x_aload_n 0 d_Rolls_takeOver_50 rfl rfl ?_
  refine x_getP (q := 13) f_Rolls_21 sh_9 rfl d_Rolls_takeOver_51 ?_
  refine x_iconst 0 d_Rolls_takeOver_54 (by decide) ?_
  refine x_bipush 30 d_Rolls_takeOver_55 (by decide) ?_
  refine x_copy0 li_Rolls_43 (xlib_of (by omega)) (Nat.le_of_ble_eq_true rfl) sh_5 sh_13 30 (by decide) d_Rolls_takeOver_57 ?_
  refine x_aload_n 1 d_Rolls_takeOver_60 rfl rfl ?_
  refine x_getP (q := 6) f_Rolls_24 sh_1 rfl d_Rolls_takeOver_61 ?_
  refine x_iconst 0 d_Rolls_takeOver_64 (by decide) ?_
  refine x_aload_n 0 d_Rolls_takeOver_65 rfl rfl ?_
  refine x_getP (q := 14) f_Rolls_24 sh_9 rfl d_Rolls_takeOver_66 ?_
  refine x_iconst 0 d_Rolls_takeOver_69 (by decide) ?_
  refine x_bipush 120 d_Rolls_takeOver_70 (by decide) ?_
  refine x_copy0 li_Rolls_43 (xlib_of (by omega)) (Nat.le_of_ble_eq_true rfl) sh_6 sh_14 120 (by decide) d_Rolls_takeOver_72 ?_
  refine x_aload_n 1 d_Rolls_takeOver_75 rfl rfl ?_
  refine x_getP (q := 7) f_Rolls_27 sh_1 rfl d_Rolls_takeOver_76 ?_
  refine x_iconst 0 d_Rolls_takeOver_79 (by decide) ?_
  refine x_aload_n 0 d_Rolls_takeOver_80 rfl rfl ?_
  refine x_getP (q := 15) f_Rolls_27 sh_9 rfl d_Rolls_takeOver_81 ?_
  refine x_iconst 0 d_Rolls_takeOver_84 (by decide) ?_
  refine x_bipush 10 d_Rolls_takeOver_85 (by decide) ?_
  refine x_copy0 li_Rolls_43 (xlib_of (by omega)) (Nat.le_of_ble_eq_true rfl) sh_7 sh_15 10 (by decide) d_Rolls_takeOver_87 ?_
  refine x_aload_n 1 d_Rolls_takeOver_90 rfl rfl ?_
  refine x_getP (q := 8) f_Rolls_30 sh_1 rfl d_Rolls_takeOver_91 ?_
  refine x_iconst 0 d_Rolls_takeOver_94 (by decide) ?_
  refine x_aload_n 0 d_Rolls_takeOver_95 rfl rfl ?_
  refine x_getP (q := 16) f_Rolls_30 sh_9 rfl d_Rolls_takeOver_96 ?_
  refine x_iconst 0 d_Rolls_takeOver_99 (by decide) ?_
  refine x_bipush 60 d_Rolls_takeOver_100 (by decide) ?_
  refine x_copy0 li_Rolls_43 (xlib_of (by omega)) (Nat.le_of_ble_eq_true rfl) sh_8 sh_16 60 (by decide) d_Rolls_takeOver_102 ?_
  refine x_aload_n 0 d_Rolls_takeOver_105 rfl rfl ?_
  refine x_aload_n 1 d_Rolls_takeOver_106 rfl rfl ?_
  refine x_getI f_Rolls_49 sh_1 rfl d_Rolls_takeOver_107 ?_
  refine x_putI f_Rolls_49 sh_9 rfl rfl rfl d_Rolls_takeOver_110 ?_
  refine x_aload_n 0 d_Rolls_takeOver_113 rfl rfl ?_
  refine x_aload_n 1 d_Rolls_takeOver_114 rfl rfl ?_
  refine x_getI f_Rolls_52 sh_1 rfl d_Rolls_takeOver_115 ?_
  refine x_putI f_Rolls_52 sh_9 rfl rfl rfl d_Rolls_takeOver_118 ?_
  refine x_aload_n 0 d_Rolls_takeOver_121 rfl rfl ?_
  refine x_aload_n 1 d_Rolls_takeOver_122 rfl rfl ?_
  refine x_getI f_Rolls_55 sh_1 rfl d_Rolls_takeOver_123 ?_
  refine x_putI f_Rolls_55 sh_9 rfl rfl rfl d_Rolls_takeOver_126 ?_
  refine x_aload_n 0 d_Rolls_takeOver_129 rfl rfl ?_
  refine x_aload_n 1 d_Rolls_takeOver_130 rfl rfl ?_
  refine x_getI f_Rolls_33 sh_1 rfl d_Rolls_takeOver_131 ?_
  refine x_putI f_Rolls_33 sh_9 rfl rfl rfl d_Rolls_takeOver_134 ?_
  refine x_aload_n 0 d_Rolls_takeOver_137 rfl rfl ?_
  refine x_aload_n 1 d_Rolls_takeOver_138 rfl rfl ?_
  refine x_getI f_Rolls_58 sh_1 rfl d_Rolls_takeOver_139 ?_
  refine x_putI f_Rolls_58 sh_9 rfl rfl rfl d_Rolls_takeOver_142 ?_
  refine x_aload_n 0 d_Rolls_takeOver_145 rfl rfl ?_
  refine x_aload_n 1 d_Rolls_takeOver_146 rfl rfl ?_
  refine x_getI f_Rolls_61 sh_1 rfl d_Rolls_takeOver_147 ?_
  refine x_putI f_Rolls_61 sh_9 rfl rfl rfl d_Rolls_takeOver_150 ?_
  obtain rfl := h
  exact x_return rfl d_Rolls_takeOver_153 (Nat.le_refl _) (Nat.le_refl _) ⟨rfl, rfl⟩
-- Ww_image
def f_Ww_image (V : xV) : Int32 × xV := ((f_Rolls_takeOver_kept V) 1 7, (f_Rolls_takeOver_kept V))
theorem t_Ww_image  (V : xV) (L : xL) (res : Int32 × xV) (h : f_Ww_image V = res) : xRuns (2) M_Ww_image [.ref 0] (SH, V, L) (fun o h' => o = some (.int res.1) ∧ h' = (SH, res.2, L)) := by
  refine xRuns_of (by decide) (Nat.le_of_ble_eq_true rfl) ?_
  unfold f_Ww_image at h
  show X M_Ww_image (xRm (2) M_Ww_image) (xZ M_Ww_image (fun o h' => o = some (.int res.1) ∧ h' = (SH, res.2, L))) SH V L 0 0 0 [(0, .ref 0)] []
  refine x_aload_n 0 d_Ww_image_0 rfl rfl ?_
  refine x_getP (q := 9) f_Ww_16 sh_0 rfl d_Ww_image_1 ?_
  refine x_aload_n 0 d_Ww_image_4 rfl rfl ?_
  refine x_getP (q := 1) f_Ww_10 sh_0 rfl d_Ww_image_5 ?_
  refine x_callV0v e_Ww_251 sh_9 rfl (t_Rolls_takeOver_kept V L _ rfl) rfl rfl rfl (Nat.le_of_ble_eq_true rfl) (xfit_of (by omega) (Nat.le_of_ble_eq_true rfl)) (Nat.zero_le _) (Nat.zero_le _) d_Ww_image_8 ?_
  refine x_aload_n 0 d_Ww_image_11 rfl rfl ?_
  refine x_getP (q := 1) f_Ww_10 sh_0 rfl d_Ww_image_12 ?_
  refine x_getI f_Ww_170 sh_1 rfl d_Ww_image_15 ?_
  obtain rfl := h
  exact x_ireturn rfl d_Ww_image_18 (Nat.le_refl _) (Nat.le_refl _) ⟨rfl, rfl⟩
-- Rolls_takeOver_now
def f_Rolls_takeOver_now (V : xV) : xV := (x2 (x2 (x2 (x2 (x2 (x2 (xcopy (xcopy (xcopy (xcopy (xcopy (xcopy (xcopy V 10 2 12) 11 3 12) 12 4 12) 13 5 30) 14 6 120) 15 7 10) 16 8 60) 1 7 ((xcopy (xcopy (xcopy (xcopy (xcopy (xcopy (xcopy V 10 2 12) 11 3 12) 12 4 12) 13 5 30) 14 6 120) 15 7 10) 16 8 60) 9 7)) 1 8 ((x2 (xcopy (xcopy (xcopy (xcopy (xcopy (xcopy (xcopy V 10 2 12) 11 3 12) 12 4 12) 13 5 30) 14 6 120) 15 7 10) 16 8 60) 1 7 ((xcopy (xcopy (xcopy (xcopy (xcopy (xcopy (xcopy V 10 2 12) 11 3 12) 12 4 12) 13 5 30) 14 6 120) 15 7 10) 16 8 60) 9 7)) 9 8)) 1 9 ((x2 (x2 (xcopy (xcopy (xcopy (xcopy (xcopy (xcopy (xcopy V 10 2 12) 11 3 12) 12 4 12) 13 5 30) 14 6 120) 15 7 10) 16 8 60) 1 7 ((xcopy (xcopy (xcopy (xcopy (xcopy (xcopy (xcopy V 10 2 12) 11 3 12) 12 4 12) 13 5 30) 14 6 120) 15 7 10) 16 8 60) 9 7)) 1 8 ((x2 (xcopy (xcopy (xcopy (xcopy (xcopy (xcopy (xcopy V 10 2 12) 11 3 12) 12 4 12) 13 5 30) 14 6 120) 15 7 10) 16 8 60) 1 7 ((xcopy (xcopy (xcopy (xcopy (xcopy (xcopy (xcopy V 10 2 12) 11 3 12) 12 4 12) 13 5 30) 14 6 120) 15 7 10) 16 8 60) 9 7)) 9 8)) 9 9)) 1 10 ((x2 (x2 (x2 (xcopy (xcopy (xcopy (xcopy (xcopy (xcopy (xcopy V 10 2 12) 11 3 12) 12 4 12) 13 5 30) 14 6 120) 15 7 10) 16 8 60) 1 7 ((xcopy (xcopy (xcopy (xcopy (xcopy (xcopy (xcopy V 10 2 12) 11 3 12) 12 4 12) 13 5 30) 14 6 120) 15 7 10) 16 8 60) 9 7)) 1 8 ((x2 (xcopy (xcopy (xcopy (xcopy (xcopy (xcopy (xcopy V 10 2 12) 11 3 12) 12 4 12) 13 5 30) 14 6 120) 15 7 10) 16 8 60) 1 7 ((xcopy (xcopy (xcopy (xcopy (xcopy (xcopy (xcopy V 10 2 12) 11 3 12) 12 4 12) 13 5 30) 14 6 120) 15 7 10) 16 8 60) 9 7)) 9 8)) 1 9 ((x2 (x2 (xcopy (xcopy (xcopy (xcopy (xcopy (xcopy (xcopy V 10 2 12) 11 3 12) 12 4 12) 13 5 30) 14 6 120) 15 7 10) 16 8 60) 1 7 ((xcopy (xcopy (xcopy (xcopy (xcopy (xcopy (xcopy V 10 2 12) 11 3 12) 12 4 12) 13 5 30) 14 6 120) 15 7 10) 16 8 60) 9 7)) 1 8 ((x2 (xcopy (xcopy (xcopy (xcopy (xcopy (xcopy (xcopy V 10 2 12) 11 3 12) 12 4 12) 13 5 30) 14 6 120) 15 7 10) 16 8 60) 1 7 ((xcopy (xcopy (xcopy (xcopy (xcopy (xcopy (xcopy V 10 2 12) 11 3 12) 12 4 12) 13 5 30) 14 6 120) 15 7 10) 16 8 60) 9 7)) 9 8)) 9 9)) 9 10)) 1 11 ((x2 (x2 (x2 (x2 (xcopy (xcopy (xcopy (xcopy (xcopy (xcopy (xcopy V 10 2 12) 11 3 12) 12 4 12) 13 5 30) 14 6 120) 15 7 10) 16 8 60) 1 7 ((xcopy (xcopy (xcopy (xcopy (xcopy (xcopy (xcopy V 10 2 12) 11 3 12) 12 4 12) 13 5 30) 14 6 120) 15 7 10) 16 8 60) 9 7)) 1 8 ((x2 (xcopy (xcopy (xcopy (xcopy (xcopy (xcopy (xcopy V 10 2 12) 11 3 12) 12 4 12) 13 5 30) 14 6 120) 15 7 10) 16 8 60) 1 7 ((xcopy (xcopy (xcopy (xcopy (xcopy (xcopy (xcopy V 10 2 12) 11 3 12) 12 4 12) 13 5 30) 14 6 120) 15 7 10) 16 8 60) 9 7)) 9 8)) 1 9 ((x2 (x2 (xcopy (xcopy (xcopy (xcopy (xcopy (xcopy (xcopy V 10 2 12) 11 3 12) 12 4 12) 13 5 30) 14 6 120) 15 7 10) 16 8 60) 1 7 ((xcopy (xcopy (xcopy (xcopy (xcopy (xcopy (xcopy V 10 2 12) 11 3 12) 12 4 12) 13 5 30) 14 6 120) 15 7 10) 16 8 60) 9 7)) 1 8 ((x2 (xcopy (xcopy (xcopy (xcopy (xcopy (xcopy (xcopy V 10 2 12) 11 3 12) 12 4 12) 13 5 30) 14 6 120) 15 7 10) 16 8 60) 1 7 ((xcopy (xcopy (xcopy (xcopy (xcopy (xcopy (xcopy V 10 2 12) 11 3 12) 12 4 12) 13 5 30) 14 6 120) 15 7 10) 16 8 60) 9 7)) 9 8)) 9 9)) 1 10 ((x2 (x2 (x2 (xcopy (xcopy (xcopy (xcopy (xcopy (xcopy (xcopy V 10 2 12) 11 3 12) 12 4 12) 13 5 30) 14 6 120) 15 7 10) 16 8 60) 1 7 ((xcopy (xcopy (xcopy (xcopy (xcopy (xcopy (xcopy V 10 2 12) 11 3 12) 12 4 12) 13 5 30) 14 6 120) 15 7 10) 16 8 60) 9 7)) 1 8 ((x2 (xcopy (xcopy (xcopy (xcopy (xcopy (xcopy (xcopy V 10 2 12) 11 3 12) 12 4 12) 13 5 30) 14 6 120) 15 7 10) 16 8 60) 1 7 ((xcopy (xcopy (xcopy (xcopy (xcopy (xcopy (xcopy V 10 2 12) 11 3 12) 12 4 12) 13 5 30) 14 6 120) 15 7 10) 16 8 60) 9 7)) 9 8)) 1 9 ((x2 (x2 (xcopy (xcopy (xcopy (xcopy (xcopy (xcopy (xcopy V 10 2 12) 11 3 12) 12 4 12) 13 5 30) 14 6 120) 15 7 10) 16 8 60) 1 7 ((xcopy (xcopy (xcopy (xcopy (xcopy (xcopy (xcopy V 10 2 12) 11 3 12) 12 4 12) 13 5 30) 14 6 120) 15 7 10) 16 8 60) 9 7)) 1 8 ((x2 (xcopy (xcopy (xcopy (xcopy (xcopy (xcopy (xcopy V 10 2 12) 11 3 12) 12 4 12) 13 5 30) 14 6 120) 15 7 10) 16 8 60) 1 7 ((xcopy (xcopy (xcopy (xcopy (xcopy (xcopy (xcopy V 10 2 12) 11 3 12) 12 4 12) 13 5 30) 14 6 120) 15 7 10) 16 8 60) 9 7)) 9 8)) 9 9)) 9 10)) 9 11)) 1 12 ((x2 (x2 (x2 (x2 (x2 (xcopy (xcopy (xcopy (xcopy (xcopy (xcopy (xcopy V 10 2 12) 11 3 12) 12 4 12) 13 5 30) 14 6 120) 15 7 10) 16 8 60) 1 7 ((xcopy (xcopy (xcopy (xcopy (xcopy (xcopy (xcopy V 10 2 12) 11 3 12) 12 4 12) 13 5 30) 14 6 120) 15 7 10) 16 8 60) 9 7)) 1 8 ((x2 (xcopy (xcopy (xcopy (xcopy (xcopy (xcopy (xcopy V 10 2 12) 11 3 12) 12 4 12) 13 5 30) 14 6 120) 15 7 10) 16 8 60) 1 7 ((xcopy (xcopy (xcopy (xcopy (xcopy (xcopy (xcopy V 10 2 12) 11 3 12) 12 4 12) 13 5 30) 14 6 120) 15 7 10) 16 8 60) 9 7)) 9 8)) 1 9 ((x2 (x2 (xcopy (xcopy (xcopy (xcopy (xcopy (xcopy (xcopy V 10 2 12) 11 3 12) 12 4 12) 13 5 30) 14 6 120) 15 7 10) 16 8 60) 1 7 ((xcopy (xcopy (xcopy (xcopy (xcopy (xcopy (xcopy V 10 2 12) 11 3 12) 12 4 12) 13 5 30) 14 6 120) 15 7 10) 16 8 60) 9 7)) 1 8 ((x2 (xcopy (xcopy (xcopy (xcopy (xcopy (xcopy (xcopy V 10 2 12) 11 3 12) 12 4 12) 13 5 30) 14 6 120) 15 7 10) 16 8 60) 1 7 ((xcopy (xcopy (xcopy (xcopy (xcopy (xcopy (xcopy V 10 2 12) 11 3 12) 12 4 12) 13 5 30) 14 6 120) 15 7 10) 16 8 60) 9 7)) 9 8)) 9 9)) 1 10 ((x2 (x2 (x2 (xcopy (xcopy (xcopy (xcopy (xcopy (xcopy (xcopy V 10 2 12) 11 3 12) 12 4 12) 13 5 30) 14 6 120) 15 7 10) 16 8 60) 1 7 ((xcopy (xcopy (xcopy (xcopy (xcopy (xcopy (xcopy V 10 2 12) 11 3 12) 12 4 12) 13 5 30) 14 6 120) 15 7 10) 16 8 60) 9 7)) 1 8 ((x2 (xcopy (xcopy (xcopy (xcopy (xcopy (xcopy (xcopy V 10 2 12) 11 3 12) 12 4 12) 13 5 30) 14 6 120) 15 7 10) 16 8 60) 1 7 ((xcopy (xcopy (xcopy (xcopy (xcopy (xcopy (xcopy V 10 2 12) 11 3 12) 12 4 12) 13 5 30) 14 6 120) 15 7 10) 16 8 60) 9 7)) 9 8)) 1 9 ((x2 (x2 (xcopy (xcopy (xcopy (xcopy (xcopy (xcopy (xcopy V 10 2 12) 11 3 12) 12 4 12) 13 5 30) 14 6 120) 15 7 10) 16 8 60) 1 7 ((xcopy (xcopy (xcopy (xcopy (xcopy (xcopy (xcopy V 10 2 12) 11 3 12) 12 4 12) 13 5 30) 14 6 120) 15 7 10) 16 8 60) 9 7)) 1 8 ((x2 (xcopy (xcopy (xcopy (xcopy (xcopy (xcopy (xcopy V 10 2 12) 11 3 12) 12 4 12) 13 5 30) 14 6 120) 15 7 10) 16 8 60) 1 7 ((xcopy (xcopy (xcopy (xcopy (xcopy (xcopy (xcopy V 10 2 12) 11 3 12) 12 4 12) 13 5 30) 14 6 120) 15 7 10) 16 8 60) 9 7)) 9 8)) 9 9)) 9 10)) 1 11 ((x2 (x2 (x2 (x2 (xcopy (xcopy (xcopy (xcopy (xcopy (xcopy (xcopy V 10 2 12) 11 3 12) 12 4 12) 13 5 30) 14 6 120) 15 7 10) 16 8 60) 1 7 ((xcopy (xcopy (xcopy (xcopy (xcopy (xcopy (xcopy V 10 2 12) 11 3 12) 12 4 12) 13 5 30) 14 6 120) 15 7 10) 16 8 60) 9 7)) 1 8 ((x2 (xcopy (xcopy (xcopy (xcopy (xcopy (xcopy (xcopy V 10 2 12) 11 3 12) 12 4 12) 13 5 30) 14 6 120) 15 7 10) 16 8 60) 1 7 ((xcopy (xcopy (xcopy (xcopy (xcopy (xcopy (xcopy V 10 2 12) 11 3 12) 12 4 12) 13 5 30) 14 6 120) 15 7 10) 16 8 60) 9 7)) 9 8)) 1 9 ((x2 (x2 (xcopy (xcopy (xcopy (xcopy (xcopy (xcopy (xcopy V 10 2 12) 11 3 12) 12 4 12) 13 5 30) 14 6 120) 15 7 10) 16 8 60) 1 7 ((xcopy (xcopy (xcopy (xcopy (xcopy (xcopy (xcopy V 10 2 12) 11 3 12) 12 4 12) 13 5 30) 14 6 120) 15 7 10) 16 8 60) 9 7)) 1 8 ((x2 (xcopy (xcopy (xcopy (xcopy (xcopy (xcopy (xcopy V 10 2 12) 11 3 12) 12 4 12) 13 5 30) 14 6 120) 15 7 10) 16 8 60) 1 7 ((xcopy (xcopy (xcopy (xcopy (xcopy (xcopy (xcopy V 10 2 12) 11 3 12) 12 4 12) 13 5 30) 14 6 120) 15 7 10) 16 8 60) 9 7)) 9 8)) 9 9)) 1 10 ((x2 (x2 (x2 (xcopy (xcopy (xcopy (xcopy (xcopy (xcopy (xcopy V 10 2 12) 11 3 12) 12 4 12) 13 5 30) 14 6 120) 15 7 10) 16 8 60) 1 7 ((xcopy (xcopy (xcopy (xcopy (xcopy (xcopy (xcopy V 10 2 12) 11 3 12) 12 4 12) 13 5 30) 14 6 120) 15 7 10) 16 8 60) 9 7)) 1 8 ((x2 (xcopy (xcopy (xcopy (xcopy (xcopy (xcopy (xcopy V 10 2 12) 11 3 12) 12 4 12) 13 5 30) 14 6 120) 15 7 10) 16 8 60) 1 7 ((xcopy (xcopy (xcopy (xcopy (xcopy (xcopy (xcopy V 10 2 12) 11 3 12) 12 4 12) 13 5 30) 14 6 120) 15 7 10) 16 8 60) 9 7)) 9 8)) 1 9 ((x2 (x2 (xcopy (xcopy (xcopy (xcopy (xcopy (xcopy (xcopy V 10 2 12) 11 3 12) 12 4 12) 13 5 30) 14 6 120) 15 7 10) 16 8 60) 1 7 ((xcopy (xcopy (xcopy (xcopy (xcopy (xcopy (xcopy V 10 2 12) 11 3 12) 12 4 12) 13 5 30) 14 6 120) 15 7 10) 16 8 60) 9 7)) 1 8 ((x2 (xcopy (xcopy (xcopy (xcopy (xcopy (xcopy (xcopy V 10 2 12) 11 3 12) 12 4 12) 13 5 30) 14 6 120) 15 7 10) 16 8 60) 1 7 ((xcopy (xcopy (xcopy (xcopy (xcopy (xcopy (xcopy V 10 2 12) 11 3 12) 12 4 12) 13 5 30) 14 6 120) 15 7 10) 16 8 60) 9 7)) 9 8)) 9 9)) 9 10)) 9 11)) 9 12))
theorem t_Rolls_takeOver_now  (V : xV) (L : xL) (res : xV) (h : f_Rolls_takeOver_now V = res) : xRuns (1) M_Rolls_takeOver [.ref 1, .ref 9] (SH, V, L) (fun o h' => o = none ∧ h' = (SH, res, L)) := by
  refine xRuns_of (by decide) (Nat.le_of_ble_eq_true rfl) ?_
  unfold f_Rolls_takeOver_now at h
  show X M_Rolls_takeOver (xRm (1) M_Rolls_takeOver) (xZ M_Rolls_takeOver (fun o h' => o = none ∧ h' = (SH, res, L))) SH V L 0 0 0 [(0, .ref 1), (1, .ref 9)] []
  refine x_aload_n 1 d_Rolls_takeOver_0 rfl rfl ?_
  refine x_getP (q := 10) f_Rolls_9 sh_9 rfl d_Rolls_takeOver_1 ?_
  refine x_iconst 0 d_Rolls_takeOver_4 (by decide) ?_
  refine x_aload_n 0 d_Rolls_takeOver_5 rfl rfl ?_
  refine x_getP (q := 2) f_Rolls_9 sh_1 rfl d_Rolls_takeOver_6 ?_
  refine x_iconst 0 d_Rolls_takeOver_9 (by decide) ?_
  refine x_bipush 12 d_Rolls_takeOver_10 (by decide) ?_
  refine x_copy0 li_Rolls_43 (xlib_of (by omega)) (Nat.le_of_ble_eq_true rfl) sh_10 sh_2 12 (by decide) d_Rolls_takeOver_12 ?_
  refine x_aload_n 1 d_Rolls_takeOver_15 rfl rfl ?_
  refine x_getP (q := 11) f_Rolls_15 sh_9 rfl d_Rolls_takeOver_16 ?_
  refine x_iconst 0 d_Rolls_takeOver_19 (by decide) ?_
  refine x_aload_n 0 d_Rolls_takeOver_20 rfl rfl ?_
  refine x_getP (q := 3) f_Rolls_15 sh_1 rfl d_Rolls_takeOver_21 ?_
  refine x_iconst 0 d_Rolls_takeOver_24 (by decide) ?_
  refine x_bipush 12 d_Rolls_takeOver_25 (by decide) ?_
  refine x_copy0 li_Rolls_43 (xlib_of (by omega)) (Nat.le_of_ble_eq_true rfl) sh_11 sh_3 12 (by decide) d_Rolls_takeOver_27 ?_
  refine x_aload_n 1 d_Rolls_takeOver_30 rfl rfl ?_
  refine x_getP (q := 12) f_Rolls_18 sh_9 rfl d_Rolls_takeOver_31 ?_
  refine x_iconst 0 d_Rolls_takeOver_34 (by decide) ?_
  refine x_aload_n 0 d_Rolls_takeOver_35 rfl rfl ?_
  refine x_getP (q := 4) f_Rolls_18 sh_1 rfl d_Rolls_takeOver_36 ?_
  refine x_iconst 0 d_Rolls_takeOver_39 (by decide) ?_
  refine x_bipush 12 d_Rolls_takeOver_40 (by decide) ?_
  refine x_copy0 li_Rolls_43 (xlib_of (by omega)) (Nat.le_of_ble_eq_true rfl) sh_12 sh_4 12 (by decide) d_Rolls_takeOver_42 ?_
  refine x_aload_n 1 d_Rolls_takeOver_45 rfl rfl ?_
  refine x_getP (q := 13) f_Rolls_21 sh_9 rfl d_Rolls_takeOver_46 ?_
  refine x_iconst 0 d_Rolls_takeOver_49 (by decide) ?_
  refine x_aload_n 0 d_Rolls_takeOver_50 rfl rfl ?_
  refine x_getP (q := 5) f_Rolls_21 sh_1 rfl d_Rolls_takeOver_51 ?_
  refine x_iconst 0 d_Rolls_takeOver_54 (by decide) ?_
  refine x_bipush 30 d_Rolls_takeOver_55 (by decide) ?_
  refine x_copy0 li_Rolls_43 (xlib_of (by omega)) (Nat.le_of_ble_eq_true rfl) sh_13 sh_5 30 (by decide) d_Rolls_takeOver_57 ?_
  refine x_aload_n 1 d_Rolls_takeOver_60 rfl rfl ?_
  refine x_getP (q := 14) f_Rolls_24 sh_9 rfl d_Rolls_takeOver_61 ?_
  refine x_iconst 0 d_Rolls_takeOver_64 (by decide) ?_
  refine x_aload_n 0 d_Rolls_takeOver_65 rfl rfl ?_
  refine x_getP (q := 6) f_Rolls_24 sh_1 rfl d_Rolls_takeOver_66 ?_
  refine x_iconst 0 d_Rolls_takeOver_69 (by decide) ?_
  refine x_bipush 120 d_Rolls_takeOver_70 (by decide) ?_
  refine x_copy0 li_Rolls_43 (xlib_of (by omega)) (Nat.le_of_ble_eq_true rfl) sh_14 sh_6 120 (by decide) d_Rolls_takeOver_72 ?_
  refine x_aload_n 1 d_Rolls_takeOver_75 rfl rfl ?_
  refine x_getP (q := 15) f_Rolls_27 sh_9 rfl d_Rolls_takeOver_76 ?_
  refine x_iconst 0 d_Rolls_takeOver_79 (by decide) ?_
  refine x_aload_n 0 d_Rolls_takeOver_80 rfl rfl ?_
  refine x_getP (q := 7) f_Rolls_27 sh_1 rfl d_Rolls_takeOver_81 ?_
  refine x_iconst 0 d_Rolls_takeOver_84 (by decide) ?_
  refine x_bipush 10 d_Rolls_takeOver_85 (by decide) ?_
  refine x_copy0 li_Rolls_43 (xlib_of (by omega)) (Nat.le_of_ble_eq_true rfl) sh_15 sh_7 10 (by decide) d_Rolls_takeOver_87 ?_
  refine x_aload_n 1 d_Rolls_takeOver_90 rfl rfl ?_
  refine x_getP (q := 16) f_Rolls_30 sh_9 rfl d_Rolls_takeOver_91 ?_
  refine x_iconst 0 d_Rolls_takeOver_94 (by decide) ?_
  refine x_aload_n 0 d_Rolls_takeOver_95 rfl rfl ?_
  refine x_getP (q := 8) f_Rolls_30 sh_1 rfl d_Rolls_takeOver_96 ?_
  refine x_iconst 0 d_Rolls_takeOver_99 (by decide) ?_
  refine x_bipush 60 d_Rolls_takeOver_100 (by decide) ?_
  refine x_copy0 li_Rolls_43 (xlib_of (by omega)) (Nat.le_of_ble_eq_true rfl) sh_16 sh_8 60 (by decide) d_Rolls_takeOver_102 ?_
  refine x_aload_n 0 d_Rolls_takeOver_105 rfl rfl ?_
  refine x_aload_n 1 d_Rolls_takeOver_106 rfl rfl ?_
  refine x_getI f_Rolls_49 sh_9 rfl d_Rolls_takeOver_107 ?_
  refine x_putI f_Rolls_49 sh_1 rfl rfl rfl d_Rolls_takeOver_110 ?_
  refine x_aload_n 0 d_Rolls_takeOver_113 rfl rfl ?_
  refine x_aload_n 1 d_Rolls_takeOver_114 rfl rfl ?_
  refine x_getI f_Rolls_52 sh_9 rfl d_Rolls_takeOver_115 ?_
  refine x_putI f_Rolls_52 sh_1 rfl rfl rfl d_Rolls_takeOver_118 ?_
  refine x_aload_n 0 d_Rolls_takeOver_121 rfl rfl ?_
  refine x_aload_n 1 d_Rolls_takeOver_122 rfl rfl ?_
  refine x_getI f_Rolls_55 sh_9 rfl d_Rolls_takeOver_123 ?_
  refine x_putI f_Rolls_55 sh_1 rfl rfl rfl d_Rolls_takeOver_126 ?_
  refine x_aload_n 0 d_Rolls_takeOver_129 rfl rfl ?_
  refine x_aload_n 1 d_Rolls_takeOver_130 rfl rfl ?_
  refine x_getI f_Rolls_33 sh_9 rfl d_Rolls_takeOver_131 ?_
  refine x_putI f_Rolls_33 sh_1 rfl rfl rfl d_Rolls_takeOver_134 ?_
  refine x_aload_n 0 d_Rolls_takeOver_137 rfl rfl ?_
  refine x_aload_n 1 d_Rolls_takeOver_138 rfl rfl ?_
  refine x_getI f_Rolls_58 sh_9 rfl d_Rolls_takeOver_139 ?_
  refine x_putI f_Rolls_58 sh_1 rfl rfl rfl d_Rolls_takeOver_142 ?_
  refine x_aload_n 0 d_Rolls_takeOver_145 rfl rfl ?_
  refine x_aload_n 1 d_Rolls_takeOver_146 rfl rfl ?_
  refine x_getI f_Rolls_61 sh_9 rfl d_Rolls_takeOver_147 ?_
  refine x_putI f_Rolls_61 sh_1 rfl rfl rfl d_Rolls_takeOver_150 ?_
  obtain rfl := h
  exact x_return rfl d_Rolls_takeOver_153 (Nat.le_refl _) (Nat.le_refl _) ⟨rfl, rfl⟩
