theorem d_Md_isHidden_0 : decode M_Md_isHidden.2.1 0 = .ok (.iconst 0, 1) := by decide +kernel
theorem d_Md_isHidden_1 : decode M_Md_isHidden.2.1 1 = .ok (.istore 5, 2) := by decide +kernel
theorem d_Md_isHidden_3 : decode M_Md_isHidden.2.1 3 = .ok (.iload 5, 2) := by decide +kernel
theorem d_Md_isHidden_5 : decode M_Md_isHidden.2.1 5 = .ok (.bipush 20, 2) := by decide +kernel
theorem d_Md_isHidden_7 : decode M_Md_isHidden.2.1 7 = .ok (.if_icmp .ge 17, 3) := by decide +kernel
theorem d_Md_isHidden_10 : decode M_Md_isHidden.2.1 10 = .ok (.aload_n 0, 1) := by decide +kernel
theorem d_Md_isHidden_11 : decode M_Md_isHidden.2.1 11 = .ok (.getfield 76, 3) := by decide +kernel
theorem d_Md_isHidden_14 : decode M_Md_isHidden.2.1 14 = .ok (.iload 5, 2) := by decide +kernel
theorem d_Md_isHidden_16 : decode M_Md_isHidden.2.1 16 = .ok (.iconst (-1), 1) := by decide +kernel
theorem d_Md_isHidden_17 : decode M_Md_isHidden.2.1 17 = .ok (.iastore, 1) := by decide +kernel
theorem d_Md_isHidden_18 : decode M_Md_isHidden.2.1 18 = .ok (.iinc 5 1, 3) := by decide +kernel
theorem d_Md_isHidden_21 : decode M_Md_isHidden.2.1 21 = .ok (.goto (-18), 3) := by decide +kernel
theorem d_Md_isHidden_24 : decode M_Md_isHidden.2.1 24 = .ok (.iconst 1, 1) := by decide +kernel
theorem d_Md_isHidden_25 : decode M_Md_isHidden.2.1 25 = .ok (.istore 5, 2) := by decide +kernel
theorem d_Md_isHidden_27 : decode M_Md_isHidden.2.1 27 = .ok (.iconst 0, 1) := by decide +kernel
theorem d_Md_isHidden_28 : decode M_Md_isHidden.2.1 28 = .ok (.istore 6, 2) := by decide +kernel
theorem d_Md_isHidden_30 : decode M_Md_isHidden.2.1 30 = .ok (.iload 6, 2) := by decide +kernel
theorem d_Md_isHidden_32 : decode M_Md_isHidden.2.1 32 = .ok (.iload_n 3, 1) := by decide +kernel
theorem d_Md_isHidden_33 : decode M_Md_isHidden.2.1 33 = .ok (.if_icmp .ge 142, 3) := by decide +kernel
theorem d_Md_isHidden_36 : decode M_Md_isHidden.2.1 36 = .ok (.iload_n 2, 1) := by decide +kernel
theorem d_Md_isHidden_37 : decode M_Md_isHidden.2.1 37 = .ok (.iload 6, 2) := by decide +kernel
theorem d_Md_isHidden_39 : decode M_Md_isHidden.2.1 39 = .ok (.iadd, 1) := by decide +kernel
theorem d_Md_isHidden_40 : decode M_Md_isHidden.2.1 40 = .ok (.istore 7, 2) := by decide +kernel
theorem d_Md_isHidden_42 : decode M_Md_isHidden.2.1 42 = .ok (.iload 4, 2) := by decide +kernel
theorem d_Md_isHidden_44 : decode M_Md_isHidden.2.1 44 = .ok (.iload_n 3, 1) := by decide +kernel
theorem d_Md_isHidden_45 : decode M_Md_isHidden.2.1 45 = .ok (.iconst 1, 1) := by decide +kernel
theorem d_Md_isHidden_46 : decode M_Md_isHidden.2.1 46 = .ok (.isub, 1) := by decide +kernel
theorem d_Md_isHidden_47 : decode M_Md_isHidden.2.1 47 = .ok (.iload 6, 2) := by decide +kernel
theorem d_Md_isHidden_49 : decode M_Md_isHidden.2.1 49 = .ok (.isub, 1) := by decide +kernel
theorem d_Md_isHidden_50 : decode M_Md_isHidden.2.1 50 = .ok (.ishr, 1) := by decide +kernel
theorem d_Md_isHidden_51 : decode M_Md_isHidden.2.1 51 = .ok (.iconst 1, 1) := by decide +kernel
theorem d_Md_isHidden_52 : decode M_Md_isHidden.2.1 52 = .ok (.iand, 1) := by decide +kernel
theorem d_Md_isHidden_53 : decode M_Md_isHidden.2.1 53 = .ok (.istore 8, 2) := by decide +kernel
theorem d_Md_isHidden_55 : decode M_Md_isHidden.2.1 55 = .ok (.iload 6, 2) := by decide +kernel
theorem d_Md_isHidden_57 : decode M_Md_isHidden.2.1 57 = .ok (.ifCond .le 15, 3) := by decide +kernel
theorem d_Md_isHidden_60 : decode M_Md_isHidden.2.1 60 = .ok (.iload 4, 2) := by decide +kernel
theorem d_Md_isHidden_62 : decode M_Md_isHidden.2.1 62 = .ok (.iload_n 3, 1) := by decide +kernel
theorem d_Md_isHidden_63 : decode M_Md_isHidden.2.1 63 = .ok (.iload 6, 2) := by decide +kernel
theorem d_Md_isHidden_65 : decode M_Md_isHidden.2.1 65 = .ok (.isub, 1) := by decide +kernel
theorem d_Md_isHidden_66 : decode M_Md_isHidden.2.1 66 = .ok (.ishr, 1) := by decide +kernel
theorem d_Md_isHidden_67 : decode M_Md_isHidden.2.1 67 = .ok (.iconst 1, 1) := by decide +kernel
theorem d_Md_isHidden_68 : decode M_Md_isHidden.2.1 68 = .ok (.iand, 1) := by decide +kernel
theorem d_Md_isHidden_69 : decode M_Md_isHidden.2.1 69 = .ok (.goto 21, 3) := by decide +kernel
theorem d_Md_isHidden_72 : decode M_Md_isHidden.2.1 72 = .ok (.iload 7, 2) := by decide +kernel
theorem d_Md_isHidden_74 : decode M_Md_isHidden.2.1 74 = .ok (.ifCond .ne 7, 3) := by decide +kernel
theorem d_Md_isHidden_77 : decode M_Md_isHidden.2.1 77 = .ok (.iconst 0, 1) := by decide +kernel
theorem d_Md_isHidden_78 : decode M_Md_isHidden.2.1 78 = .ok (.goto 12, 3) := by decide +kernel
theorem d_Md_isHidden_81 : decode M_Md_isHidden.2.1 81 = .ok (.aload_n 0, 1) := by decide +kernel
theorem d_Md_isHidden_82 : decode M_Md_isHidden.2.1 82 = .ok (.iload 7, 2) := by decide +kernel
theorem d_Md_isHidden_84 : decode M_Md_isHidden.2.1 84 = .ok (.iconst 1, 1) := by decide +kernel
theorem d_Md_isHidden_85 : decode M_Md_isHidden.2.1 85 = .ok (.isub, 1) := by decide +kernel
theorem d_Md_isHidden_86 : decode M_Md_isHidden.2.1 86 = .ok (.iload_n 1, 1) := by decide +kernel
theorem d_Md_isHidden_87 : decode M_Md_isHidden.2.1 87 = .ok (.invokevirtual 291, 3) := by decide +kernel
theorem d_Md_isHidden_90 : decode M_Md_isHidden.2.1 90 = .ok (.istore 9, 2) := by decide +kernel
theorem d_Md_isHidden_92 : decode M_Md_isHidden.2.1 92 = .ok (.iload 7, 2) := by decide +kernel
theorem d_Md_isHidden_94 : decode M_Md_isHidden.2.1 94 = .ok (.ifCond .ne 7, 3) := by decide +kernel
theorem d_Md_isHidden_97 : decode M_Md_isHidden.2.1 97 = .ok (.iconst 0, 1) := by decide +kernel
theorem d_Md_isHidden_98 : decode M_Md_isHidden.2.1 98 = .ok (.goto 15, 3) := by decide +kernel
theorem d_Md_isHidden_101 : decode M_Md_isHidden.2.1 101 = .ok (.aload_n 0, 1) := by decide +kernel
theorem d_Md_isHidden_102 : decode M_Md_isHidden.2.1 102 = .ok (.getfield 7, 3) := by decide +kernel
theorem d_Md_isHidden_105 : decode M_Md_isHidden.2.1 105 = .ok (.bipush 10, 2) := by decide +kernel
theorem d_Md_isHidden_107 : decode M_Md_isHidden.2.1 107 = .ok (.iload 7, 2) := by decide +kernel
theorem d_Md_isHidden_109 : decode M_Md_isHidden.2.1 109 = .ok (.iadd, 1) := by decide +kernel
theorem d_Md_isHidden_110 : decode M_Md_isHidden.2.1 110 = .ok (.iconst 1, 1) := by decide +kernel
theorem d_Md_isHidden_111 : decode M_Md_isHidden.2.1 111 = .ok (.isub, 1) := by decide +kernel
theorem d_Md_isHidden_112 : decode M_Md_isHidden.2.1 112 = .ok (.iaload, 1) := by decide +kernel
theorem d_Md_isHidden_113 : decode M_Md_isHidden.2.1 113 = .ok (.istore 10, 2) := by decide +kernel
theorem d_Md_isHidden_115 : decode M_Md_isHidden.2.1 115 = .ok (.bipush 10, 2) := by decide +kernel
theorem d_Md_isHidden_117 : decode M_Md_isHidden.2.1 117 = .ok (.iload 9, 2) := by decide +kernel
theorem d_Md_isHidden_119 : decode M_Md_isHidden.2.1 119 = .ok (.imul, 1) := by decide +kernel
theorem d_Md_isHidden_120 : decode M_Md_isHidden.2.1 120 = .ok (.iload 10, 2) := by decide +kernel
theorem d_Md_isHidden_122 : decode M_Md_isHidden.2.1 122 = .ok (.iadd, 1) := by decide +kernel
theorem d_Md_isHidden_123 : decode M_Md_isHidden.2.1 123 = .ok (.istore 11, 2) := by decide +kernel
theorem d_Md_isHidden_125 : decode M_Md_isHidden.2.1 125 = .ok (.iload 5, 2) := by decide +kernel
theorem d_Md_isHidden_127 : decode M_Md_isHidden.2.1 127 = .ok (.ifCond .eq 30, 3) := by decide +kernel
theorem d_Md_isHidden_130 : decode M_Md_isHidden.2.1 130 = .ok (.aload_n 0, 1) := by decide +kernel
theorem d_Md_isHidden_131 : decode M_Md_isHidden.2.1 131 = .ok (.getfield 76, 3) := by decide +kernel
theorem d_Md_isHidden_134 : decode M_Md_isHidden.2.1 134 = .ok (.iload 11, 2) := by decide +kernel
theorem d_Md_isHidden_136 : decode M_Md_isHidden.2.1 136 = .ok (.iaload, 1) := by decide +kernel
theorem d_Md_isHidden_137 : decode M_Md_isHidden.2.1 137 = .ok (.iconst (-1), 1) := by decide +kernel
theorem d_Md_isHidden_138 : decode M_Md_isHidden.2.1 138 = .ok (.if_icmp .eq 15, 3) := by decide +kernel
theorem d_Md_isHidden_141 : decode M_Md_isHidden.2.1 141 = .ok (.aload_n 0, 1) := by decide +kernel
theorem d_Md_isHidden_142 : decode M_Md_isHidden.2.1 142 = .ok (.getfield 76, 3) := by decide +kernel
theorem d_Md_isHidden_145 : decode M_Md_isHidden.2.1 145 = .ok (.iload 11, 2) := by decide +kernel
theorem d_Md_isHidden_147 : decode M_Md_isHidden.2.1 147 = .ok (.iaload, 1) := by decide +kernel
theorem d_Md_isHidden_148 : decode M_Md_isHidden.2.1 148 = .ok (.iload 8, 2) := by decide +kernel
theorem d_Md_isHidden_150 : decode M_Md_isHidden.2.1 150 = .ok (.if_icmp .ne 7, 3) := by decide +kernel
theorem d_Md_isHidden_153 : decode M_Md_isHidden.2.1 153 = .ok (.iconst 1, 1) := by decide +kernel
theorem d_Md_isHidden_154 : decode M_Md_isHidden.2.1 154 = .ok (.goto 4, 3) := by decide +kernel
theorem d_Md_isHidden_157 : decode M_Md_isHidden.2.1 157 = .ok (.iconst 0, 1) := by decide +kernel
theorem d_Md_isHidden_158 : decode M_Md_isHidden.2.1 158 = .ok (.istore 5, 2) := by decide +kernel
theorem d_Md_isHidden_160 : decode M_Md_isHidden.2.1 160 = .ok (.aload_n 0, 1) := by decide +kernel
theorem d_Md_isHidden_161 : decode M_Md_isHidden.2.1 161 = .ok (.getfield 76, 3) := by decide +kernel
theorem d_Md_isHidden_164 : decode M_Md_isHidden.2.1 164 = .ok (.iload 11, 2) := by decide +kernel
theorem d_Md_isHidden_166 : decode M_Md_isHidden.2.1 166 = .ok (.iload 8, 2) := by decide +kernel
theorem d_Md_isHidden_168 : decode M_Md_isHidden.2.1 168 = .ok (.iastore, 1) := by decide +kernel
theorem d_Md_isHidden_169 : decode M_Md_isHidden.2.1 169 = .ok (.iinc 6 1, 3) := by decide +kernel
theorem d_Md_isHidden_172 : decode M_Md_isHidden.2.1 172 = .ok (.goto (-142), 3) := by decide +kernel
theorem d_Md_isHidden_175 : decode M_Md_isHidden.2.1 175 = .ok (.iload 5, 2) := by decide +kernel
theorem d_Md_isHidden_177 : decode M_Md_isHidden.2.1 177 = .ok (.ireturn, 1) := by decide +kernel
theorem d_Md_plan_0 : decode M_Md_plan.2.1 0 = .ok (.iload_n 1, 1) := by decide +kernel
theorem d_Md_plan_1 : decode M_Md_plan.2.1 1 = .ok (.invokestatic 93, 3) := by decide +kernel
theorem d_Md_plan_4 : decode M_Md_plan.2.1 4 = .ok (.ifCond .eq 40, 3) := by decide +kernel
theorem d_Md_plan_7 : decode M_Md_plan.2.1 7 = .ok (.iload_n 2, 1) := by decide +kernel
theorem d_Md_plan_8 : decode M_Md_plan.2.1 8 = .ok (.invokestatic 97, 3) := by decide +kernel
theorem d_Md_plan_11 : decode M_Md_plan.2.1 11 = .ok (.ifCond .eq 33, 3) := by decide +kernel
theorem d_Md_plan_14 : decode M_Md_plan.2.1 14 = .ok (.iload_n 3, 1) := by decide +kernel
theorem d_Md_plan_15 : decode M_Md_plan.2.1 15 = .ok (.iconst 1, 1) := by decide +kernel
theorem d_Md_plan_16 : decode M_Md_plan.2.1 16 = .ok (.bipush 10, 2) := by decide +kernel
theorem d_Md_plan_18 : decode M_Md_plan.2.1 18 = .ok (.invokestatic 89, 3) := by decide +kernel
theorem d_Md_plan_21 : decode M_Md_plan.2.1 21 = .ok (.ifCond .eq 23, 3) := by decide +kernel
theorem d_Md_plan_24 : decode M_Md_plan.2.1 24 = .ok (.iload_n 2, 1) := by decide +kernel
theorem d_Md_plan_25 : decode M_Md_plan.2.1 25 = .ok (.iload_n 3, 1) := by decide +kernel
theorem d_Md_plan_26 : decode M_Md_plan.2.1 26 = .ok (.iadd, 1) := by decide +kernel
theorem d_Md_plan_27 : decode M_Md_plan.2.1 27 = .ok (.bipush 30, 2) := by decide +kernel
theorem d_Md_plan_29 : decode M_Md_plan.2.1 29 = .ok (.if_icmp .gt 15, 3) := by decide +kernel
theorem d_Md_plan_32 : decode M_Md_plan.2.1 32 = .ok (.iload 4, 2) := by decide +kernel
theorem d_Md_plan_34 : decode M_Md_plan.2.1 34 = .ok (.iconst (-1), 1) := by decide +kernel
theorem d_Md_plan_35 : decode M_Md_plan.2.1 35 = .ok (.iload_n 3, 1) := by decide +kernel
theorem d_Md_plan_36 : decode M_Md_plan.2.1 36 = .ok (.iconst 1, 1) := by decide +kernel
theorem d_Md_plan_37 : decode M_Md_plan.2.1 37 = .ok (.isub, 1) := by decide +kernel
theorem d_Md_plan_38 : decode M_Md_plan.2.1 38 = .ok (.invokestatic 89, 3) := by decide +kernel
theorem d_Md_plan_41 : decode M_Md_plan.2.1 41 = .ok (.ifCond .ne 7, 3) := by decide +kernel
theorem d_Md_plan_44 : decode M_Md_plan.2.1 44 = .ok (.ldc_w 345, 3) := by decide +kernel
theorem d_Md_plan_47 : decode M_Md_plan.2.1 47 = .ok (.ireturn, 1) := by decide +kernel
theorem d_Md_plan_48 : decode M_Md_plan.2.1 48 = .ok (.iconst 0, 1) := by decide +kernel
theorem d_Md_plan_49 : decode M_Md_plan.2.1 49 = .ok (.istore 5, 2) := by decide +kernel
theorem d_Md_plan_51 : decode M_Md_plan.2.1 51 = .ok (.iload 5, 2) := by decide +kernel
theorem d_Md_plan_53 : decode M_Md_plan.2.1 53 = .ok (.iconst 2, 1) := by decide +kernel
theorem d_Md_plan_54 : decode M_Md_plan.2.1 54 = .ok (.iload_n 3, 1) := by decide +kernel
theorem d_Md_plan_55 : decode M_Md_plan.2.1 55 = .ok (.imul, 1) := by decide +kernel
theorem d_Md_plan_56 : decode M_Md_plan.2.1 56 = .ok (.if_icmp .ge 31, 3) := by decide +kernel
theorem d_Md_plan_59 : decode M_Md_plan.2.1 59 = .ok (.aload_n 0, 1) := by decide +kernel
theorem d_Md_plan_60 : decode M_Md_plan.2.1 60 = .ok (.getfield 79, 3) := by decide +kernel
theorem d_Md_plan_63 : decode M_Md_plan.2.1 63 = .ok (.iload 5, 2) := by decide +kernel
theorem d_Md_plan_65 : decode M_Md_plan.2.1 65 = .ok (.aload_n 0, 1) := by decide +kernel
theorem d_Md_plan_66 : decode M_Md_plan.2.1 66 = .ok (.iload_n 1, 1) := by decide +kernel
theorem d_Md_plan_67 : decode M_Md_plan.2.1 67 = .ok (.iload_n 2, 1) := by decide +kernel
theorem d_Md_plan_68 : decode M_Md_plan.2.1 68 = .ok (.iload 5, 2) := by decide +kernel
theorem d_Md_plan_70 : decode M_Md_plan.2.1 70 = .ok (.iconst 2, 1) := by decide +kernel
theorem d_Md_plan_71 : decode M_Md_plan.2.1 71 = .ok (.idiv, 1) := by decide +kernel
theorem d_Md_plan_72 : decode M_Md_plan.2.1 72 = .ok (.iadd, 1) := by decide +kernel
theorem d_Md_plan_73 : decode M_Md_plan.2.1 73 = .ok (.iload 5, 2) := by decide +kernel
theorem d_Md_plan_75 : decode M_Md_plan.2.1 75 = .ok (.iconst 2, 1) := by decide +kernel
theorem d_Md_plan_76 : decode M_Md_plan.2.1 76 = .ok (.irem, 1) := by decide +kernel
theorem d_Md_plan_77 : decode M_Md_plan.2.1 77 = .ok (.invokevirtual 352, 3) := by decide +kernel
theorem d_Md_plan_80 : decode M_Md_plan.2.1 80 = .ok (.iastore, 1) := by decide +kernel
theorem d_Md_plan_81 : decode M_Md_plan.2.1 81 = .ok (.iinc 5 1, 3) := by decide +kernel
theorem d_Md_plan_84 : decode M_Md_plan.2.1 84 = .ok (.goto (-33), 3) := by decide +kernel
theorem d_Md_plan_87 : decode M_Md_plan.2.1 87 = .ok (.iconst (-1), 1) := by decide +kernel
theorem d_Md_plan_88 : decode M_Md_plan.2.1 88 = .ok (.istore 5, 2) := by decide +kernel
theorem d_Md_plan_90 : decode M_Md_plan.2.1 90 = .ok (.iconst 0, 1) := by decide +kernel
theorem d_Md_plan_91 : decode M_Md_plan.2.1 91 = .ok (.istore 6, 2) := by decide +kernel
theorem d_Md_plan_93 : decode M_Md_plan.2.1 93 = .ok (.iconst 0, 1) := by decide +kernel
theorem d_Md_plan_94 : decode M_Md_plan.2.1 94 = .ok (.istore 7, 2) := by decide +kernel
theorem d_Md_plan_96 : decode M_Md_plan.2.1 96 = .ok (.iload 7, 2) := by decide +kernel
theorem d_Md_plan_98 : decode M_Md_plan.2.1 98 = .ok (.iconst 1, 1) := by decide +kernel
theorem d_Md_plan_99 : decode M_Md_plan.2.1 99 = .ok (.iload_n 3, 1) := by decide +kernel
theorem d_Md_plan_100 : decode M_Md_plan.2.1 100 = .ok (.ishl, 1) := by decide +kernel
theorem d_Md_plan_101 : decode M_Md_plan.2.1 101 = .ok (.if_icmp .ge 86, 3) := by decide +kernel
theorem d_Md_plan_104 : decode M_Md_plan.2.1 104 = .ok (.iconst 0, 1) := by decide +kernel
theorem d_Md_plan_105 : decode M_Md_plan.2.1 105 = .ok (.istore 8, 2) := by decide +kernel
theorem d_Md_plan_107 : decode M_Md_plan.2.1 107 = .ok (.iconst 0, 1) := by decide +kernel
theorem d_Md_plan_108 : decode M_Md_plan.2.1 108 = .ok (.istore 9, 2) := by decide +kernel
theorem d_Md_plan_110 : decode M_Md_plan.2.1 110 = .ok (.iload 9, 2) := by decide +kernel
theorem d_Md_plan_112 : decode M_Md_plan.2.1 112 = .ok (.iload_n 3, 1) := by decide +kernel
theorem d_Md_plan_113 : decode M_Md_plan.2.1 113 = .ok (.if_icmp .ge 35, 3) := by decide +kernel
theorem d_Md_plan_116 : decode M_Md_plan.2.1 116 = .ok (.iload 8, 2) := by decide +kernel
theorem d_Md_plan_118 : decode M_Md_plan.2.1 118 = .ok (.aload_n 0, 1) := by decide +kernel
theorem d_Md_plan_119 : decode M_Md_plan.2.1 119 = .ok (.getfield 79, 3) := by decide +kernel
theorem d_Md_plan_122 : decode M_Md_plan.2.1 122 = .ok (.iconst 2, 1) := by decide +kernel
theorem d_Md_plan_123 : decode M_Md_plan.2.1 123 = .ok (.iload 9, 2) := by decide +kernel
theorem d_Md_plan_125 : decode M_Md_plan.2.1 125 = .ok (.imul, 1) := by decide +kernel
theorem d_Md_plan_126 : decode M_Md_plan.2.1 126 = .ok (.iload 7, 2) := by decide +kernel
theorem d_Md_plan_128 : decode M_Md_plan.2.1 128 = .ok (.iload_n 3, 1) := by decide +kernel
theorem d_Md_plan_129 : decode M_Md_plan.2.1 129 = .ok (.iconst 1, 1) := by decide +kernel
theorem d_Md_plan_130 : decode M_Md_plan.2.1 130 = .ok (.isub, 1) := by decide +kernel
theorem d_Md_plan_131 : decode M_Md_plan.2.1 131 = .ok (.iload 9, 2) := by decide +kernel
theorem d_Md_plan_133 : decode M_Md_plan.2.1 133 = .ok (.isub, 1) := by decide +kernel
theorem d_Md_plan_134 : decode M_Md_plan.2.1 134 = .ok (.ishr, 1) := by decide +kernel
theorem d_Md_plan_135 : decode M_Md_plan.2.1 135 = .ok (.iconst 1, 1) := by decide +kernel
theorem d_Md_plan_136 : decode M_Md_plan.2.1 136 = .ok (.iand, 1) := by decide +kernel
theorem d_Md_plan_137 : decode M_Md_plan.2.1 137 = .ok (.iadd, 1) := by decide +kernel
theorem d_Md_plan_138 : decode M_Md_plan.2.1 138 = .ok (.iaload, 1) := by decide +kernel
theorem d_Md_plan_139 : decode M_Md_plan.2.1 139 = .ok (.iadd, 1) := by decide +kernel
theorem d_Md_plan_140 : decode M_Md_plan.2.1 140 = .ok (.istore 8, 2) := by decide +kernel
theorem d_Md_plan_142 : decode M_Md_plan.2.1 142 = .ok (.iinc 9 1, 3) := by decide +kernel
theorem d_Md_plan_145 : decode M_Md_plan.2.1 145 = .ok (.goto (-35), 3) := by decide +kernel
theorem d_Md_plan_148 : decode M_Md_plan.2.1 148 = .ok (.aload_n 0, 1) := by decide +kernel
theorem d_Md_plan_149 : decode M_Md_plan.2.1 149 = .ok (.iload_n 1, 1) := by decide +kernel
theorem d_Md_plan_150 : decode M_Md_plan.2.1 150 = .ok (.iload_n 2, 1) := by decide +kernel
theorem d_Md_plan_151 : decode M_Md_plan.2.1 151 = .ok (.iload_n 3, 1) := by decide +kernel
theorem d_Md_plan_152 : decode M_Md_plan.2.1 152 = .ok (.iload 7, 2) := by decide +kernel
theorem d_Md_plan_154 : decode M_Md_plan.2.1 154 = .ok (.invokevirtual 356, 3) := by decide +kernel
theorem d_Md_plan_157 : decode M_Md_plan.2.1 157 = .ok (.ifCond .eq 24, 3) := by decide +kernel
theorem d_Md_plan_160 : decode M_Md_plan.2.1 160 = .ok (.iload 5, 2) := by decide +kernel
theorem d_Md_plan_162 : decode M_Md_plan.2.1 162 = .ok (.iconst (-1), 1) := by decide +kernel
theorem d_Md_plan_163 : decode M_Md_plan.2.1 163 = .ok (.if_icmp .eq 10, 3) := by decide +kernel
theorem d_Md_plan_166 : decode M_Md_plan.2.1 166 = .ok (.iload 8, 2) := by decide +kernel
theorem d_Md_plan_168 : decode M_Md_plan.2.1 168 = .ok (.iload 6, 2) := by decide +kernel
theorem d_Md_plan_170 : decode M_Md_plan.2.1 170 = .ok (.if_icmp .le 11, 3) := by decide +kernel
theorem d_Md_plan_173 : decode M_Md_plan.2.1 173 = .ok (.iload 7, 2) := by decide +kernel
theorem d_Md_plan_175 : decode M_Md_plan.2.1 175 = .ok (.istore 5, 2) := by decide +kernel
theorem d_Md_plan_177 : decode M_Md_plan.2.1 177 = .ok (.iload 8, 2) := by decide +kernel
theorem d_Md_plan_179 : decode M_Md_plan.2.1 179 = .ok (.istore 6, 2) := by decide +kernel
theorem d_Md_plan_181 : decode M_Md_plan.2.1 181 = .ok (.iinc 7 1, 3) := by decide +kernel
theorem d_Md_plan_184 : decode M_Md_plan.2.1 184 = .ok (.goto (-88), 3) := by decide +kernel
theorem d_Md_plan_187 : decode M_Md_plan.2.1 187 = .ok (.iload 4, 2) := by decide +kernel
theorem d_Md_plan_189 : decode M_Md_plan.2.1 189 = .ok (.iconst (-1), 1) := by decide +kernel
theorem d_Md_plan_190 : decode M_Md_plan.2.1 190 = .ok (.if_icmp .ne 8, 3) := by decide +kernel
theorem d_Md_plan_193 : decode M_Md_plan.2.1 193 = .ok (.iload 6, 2) := by decide +kernel
theorem d_Md_plan_195 : decode M_Md_plan.2.1 195 = .ok (.goto 14, 3) := by decide +kernel
theorem d_Md_plan_198 : decode M_Md_plan.2.1 198 = .ok (.iload 5, 2) := by decide +kernel
theorem d_Md_plan_200 : decode M_Md_plan.2.1 200 = .ok (.iload_n 3, 1) := by decide +kernel
theorem d_Md_plan_201 : decode M_Md_plan.2.1 201 = .ok (.iconst 1, 1) := by decide +kernel
theorem d_Md_plan_202 : decode M_Md_plan.2.1 202 = .ok (.isub, 1) := by decide +kernel
theorem d_Md_plan_203 : decode M_Md_plan.2.1 203 = .ok (.iload 4, 2) := by decide +kernel
theorem d_Md_plan_205 : decode M_Md_plan.2.1 205 = .ok (.isub, 1) := by decide +kernel
theorem d_Md_plan_206 : decode M_Md_plan.2.1 206 = .ok (.ishr, 1) := by decide +kernel
theorem d_Md_plan_207 : decode M_Md_plan.2.1 207 = .ok (.iconst 1, 1) := by decide +kernel
theorem d_Md_plan_208 : decode M_Md_plan.2.1 208 = .ok (.iand, 1) := by decide +kernel
theorem d_Md_plan_209 : decode M_Md_plan.2.1 209 = .ok (.ireturn, 1) := by decide +kernel
theorem d_Md_isLike_0 : decode M_Md_isLike.2.1 0 = .ok (.iload_n 2, 1) := by decide +kernel
theorem d_Md_isLike_1 : decode M_Md_isLike.2.1 1 = .ok (.ifCond .ne 7, 3) := by decide +kernel
theorem d_Md_isLike_4 : decode M_Md_isLike.2.1 4 = .ok (.iconst 0, 1) := by decide +kernel
theorem d_Md_isLike_5 : decode M_Md_isLike.2.1 5 = .ok (.goto 11, 3) := by decide +kernel
theorem d_Md_isLike_8 : decode M_Md_isLike.2.1 8 = .ok (.aload_n 0, 1) := by decide +kernel
theorem d_Md_isLike_9 : decode M_Md_isLike.2.1 9 = .ok (.iload_n 2, 1) := by decide +kernel
theorem d_Md_isLike_10 : decode M_Md_isLike.2.1 10 = .ok (.iconst 1, 1) := by decide +kernel
theorem d_Md_isLike_11 : decode M_Md_isLike.2.1 11 = .ok (.isub, 1) := by decide +kernel
theorem d_Md_isLike_12 : decode M_Md_isLike.2.1 12 = .ok (.iload_n 1, 1) := by decide +kernel
theorem d_Md_isLike_13 : decode M_Md_isLike.2.1 13 = .ok (.invokevirtual 291, 3) := by decide +kernel
theorem d_Md_isLike_16 : decode M_Md_isLike.2.1 16 = .ok (.istore 4, 2) := by decide +kernel
theorem d_Md_isLike_18 : decode M_Md_isLike.2.1 18 = .ok (.iload_n 3, 1) := by decide +kernel
theorem d_Md_isLike_19 : decode M_Md_isLike.2.1 19 = .ok (.ifCond .ne 7, 3) := by decide +kernel
theorem d_Md_isLike_22 : decode M_Md_isLike.2.1 22 = .ok (.iconst 0, 1) := by decide +kernel
theorem d_Md_isLike_23 : decode M_Md_isLike.2.1 23 = .ok (.goto 11, 3) := by decide +kernel
theorem d_Md_isLike_26 : decode M_Md_isLike.2.1 26 = .ok (.aload_n 0, 1) := by decide +kernel
theorem d_Md_isLike_27 : decode M_Md_isLike.2.1 27 = .ok (.iload_n 3, 1) := by decide +kernel
theorem d_Md_isLike_28 : decode M_Md_isLike.2.1 28 = .ok (.iconst 1, 1) := by decide +kernel
theorem d_Md_isLike_29 : decode M_Md_isLike.2.1 29 = .ok (.isub, 1) := by decide +kernel
theorem d_Md_isLike_30 : decode M_Md_isLike.2.1 30 = .ok (.iload_n 1, 1) := by decide +kernel
theorem d_Md_isLike_31 : decode M_Md_isLike.2.1 31 = .ok (.invokevirtual 291, 3) := by decide +kernel
theorem d_Md_isLike_34 : decode M_Md_isLike.2.1 34 = .ok (.istore 5, 2) := by decide +kernel
theorem d_Md_isLike_36 : decode M_Md_isLike.2.1 36 = .ok (.iload_n 2, 1) := by decide +kernel
theorem d_Md_isLike_37 : decode M_Md_isLike.2.1 37 = .ok (.ifCond .ne 7, 3) := by decide +kernel
theorem d_Md_isLike_40 : decode M_Md_isLike.2.1 40 = .ok (.iconst 0, 1) := by decide +kernel
theorem d_Md_isLike_41 : decode M_Md_isLike.2.1 41 = .ok (.goto 14, 3) := by decide +kernel
theorem d_Md_isLike_44 : decode M_Md_isLike.2.1 44 = .ok (.aload_n 0, 1) := by decide +kernel
theorem d_Md_isLike_45 : decode M_Md_isLike.2.1 45 = .ok (.getfield 7, 3) := by decide +kernel
theorem d_Md_isLike_48 : decode M_Md_isLike.2.1 48 = .ok (.bipush 10, 2) := by decide +kernel
theorem d_Md_isLike_50 : decode M_Md_isLike.2.1 50 = .ok (.iload_n 2, 1) := by decide +kernel
theorem d_Md_isLike_51 : decode M_Md_isLike.2.1 51 = .ok (.iadd, 1) := by decide +kernel
theorem d_Md_isLike_52 : decode M_Md_isLike.2.1 52 = .ok (.iconst 1, 1) := by decide +kernel
theorem d_Md_isLike_53 : decode M_Md_isLike.2.1 53 = .ok (.isub, 1) := by decide +kernel
theorem d_Md_isLike_54 : decode M_Md_isLike.2.1 54 = .ok (.iaload, 1) := by decide +kernel
theorem d_Md_isLike_55 : decode M_Md_isLike.2.1 55 = .ok (.istore 6, 2) := by decide +kernel
theorem d_Md_isLike_57 : decode M_Md_isLike.2.1 57 = .ok (.iload_n 3, 1) := by decide +kernel
theorem d_Md_isLike_58 : decode M_Md_isLike.2.1 58 = .ok (.ifCond .ne 7, 3) := by decide +kernel
theorem d_Md_isLike_61 : decode M_Md_isLike.2.1 61 = .ok (.iconst 0, 1) := by decide +kernel
theorem d_Md_isLike_62 : decode M_Md_isLike.2.1 62 = .ok (.goto 14, 3) := by decide +kernel
theorem d_Md_isLike_65 : decode M_Md_isLike.2.1 65 = .ok (.aload_n 0, 1) := by decide +kernel
theorem d_Md_isLike_66 : decode M_Md_isLike.2.1 66 = .ok (.getfield 7, 3) := by decide +kernel
theorem d_Md_isLike_69 : decode M_Md_isLike.2.1 69 = .ok (.bipush 10, 2) := by decide +kernel
theorem d_Md_isLike_71 : decode M_Md_isLike.2.1 71 = .ok (.iload_n 3, 1) := by decide +kernel
theorem d_Md_isLike_72 : decode M_Md_isLike.2.1 72 = .ok (.iadd, 1) := by decide +kernel
theorem d_Md_isLike_73 : decode M_Md_isLike.2.1 73 = .ok (.iconst 1, 1) := by decide +kernel
theorem d_Md_isLike_74 : decode M_Md_isLike.2.1 74 = .ok (.isub, 1) := by decide +kernel
theorem d_Md_isLike_75 : decode M_Md_isLike.2.1 75 = .ok (.iaload, 1) := by decide +kernel
theorem d_Md_isLike_76 : decode M_Md_isLike.2.1 76 = .ok (.istore 7, 2) := by decide +kernel
theorem d_Md_isLike_78 : decode M_Md_isLike.2.1 78 = .ok (.iload 4, 2) := by decide +kernel
theorem d_Md_isLike_80 : decode M_Md_isLike.2.1 80 = .ok (.iload 5, 2) := by decide +kernel
theorem d_Md_isLike_82 : decode M_Md_isLike.2.1 82 = .ok (.if_icmp .ne 14, 3) := by decide +kernel
theorem d_Md_isLike_85 : decode M_Md_isLike.2.1 85 = .ok (.iload 6, 2) := by decide +kernel
theorem d_Md_isLike_87 : decode M_Md_isLike.2.1 87 = .ok (.iload 7, 2) := by decide +kernel
theorem d_Md_isLike_89 : decode M_Md_isLike.2.1 89 = .ok (.if_icmp .ne 7, 3) := by decide +kernel
theorem d_Md_isLike_92 : decode M_Md_isLike.2.1 92 = .ok (.iconst 1, 1) := by decide +kernel
theorem d_Md_isLike_93 : decode M_Md_isLike.2.1 93 = .ok (.goto 4, 3) := by decide +kernel
theorem d_Md_isLike_96 : decode M_Md_isLike.2.1 96 = .ok (.iconst 0, 1) := by decide +kernel
theorem d_Md_isLike_97 : decode M_Md_isLike.2.1 97 = .ok (.ireturn, 1) := by decide +kernel
theorem d_Md_found_0 : decode M_Md_found.2.1 0 = .ok (.iload_n 1, 1) := by decide +kernel
theorem d_Md_found_1 : decode M_Md_found.2.1 1 = .ok (.invokestatic 93, 3) := by decide +kernel
theorem d_Md_found_4 : decode M_Md_found.2.1 4 = .ok (.ifCond .eq 12, 3) := by decide +kernel
theorem d_Md_found_7 : decode M_Md_found.2.1 7 = .ok (.iload_n 2, 1) := by decide +kernel
theorem d_Md_found_8 : decode M_Md_found.2.1 8 = .ok (.iconst 0, 1) := by decide +kernel
theorem d_Md_found_9 : decode M_Md_found.2.1 9 = .ok (.iconst 1, 1) := by decide +kernel
theorem d_Md_found_10 : decode M_Md_found.2.1 10 = .ok (.invokestatic 89, 3) := by decide +kernel
theorem d_Md_found_13 : decode M_Md_found.2.1 13 = .ok (.ifCond .ne 5, 3) := by decide +kernel
theorem d_Md_found_16 : decode M_Md_found.2.1 16 = .ok (.iconst (-1), 1) := by decide +kernel
theorem d_Md_found_17 : decode M_Md_found.2.1 17 = .ok (.ireturn, 1) := by decide +kernel
theorem d_Md_found_18 : decode M_Md_found.2.1 18 = .ok (.iconst 0, 1) := by decide +kernel
theorem d_Md_found_19 : decode M_Md_found.2.1 19 = .ok (.istore_n 3, 1) := by decide +kernel
theorem d_Md_found_20 : decode M_Md_found.2.1 20 = .ok (.iload_n 3, 1) := by decide +kernel
theorem d_Md_found_21 : decode M_Md_found.2.1 21 = .ok (.bipush 30, 2) := by decide +kernel
theorem d_Md_found_23 : decode M_Md_found.2.1 23 = .ok (.if_icmp .ge 62, 3) := by decide +kernel
theorem d_Md_found_26 : decode M_Md_found.2.1 26 = .ok (.iconst 0, 1) := by decide +kernel
theorem d_Md_found_27 : decode M_Md_found.2.1 27 = .ok (.istore 4, 2) := by decide +kernel
theorem d_Md_found_29 : decode M_Md_found.2.1 29 = .ok (.iload 4, 2) := by decide +kernel
theorem d_Md_found_31 : decode M_Md_found.2.1 31 = .ok (.iload_n 3, 1) := by decide +kernel
theorem d_Md_found_32 : decode M_Md_found.2.1 32 = .ok (.if_icmp .ge 47, 3) := by decide +kernel
theorem d_Md_found_35 : decode M_Md_found.2.1 35 = .ok (.aload_n 0, 1) := by decide +kernel
theorem d_Md_found_36 : decode M_Md_found.2.1 36 = .ok (.iload_n 1, 1) := by decide +kernel
theorem d_Md_found_37 : decode M_Md_found.2.1 37 = .ok (.iload 4, 2) := by decide +kernel
theorem d_Md_found_39 : decode M_Md_found.2.1 39 = .ok (.iload_n 3, 1) := by decide +kernel
theorem d_Md_found_40 : decode M_Md_found.2.1 40 = .ok (.invokevirtual 359, 3) := by decide +kernel
theorem d_Md_found_43 : decode M_Md_found.2.1 43 = .ok (.ifCond .eq 30, 3) := by decide +kernel
theorem d_Md_found_46 : decode M_Md_found.2.1 46 = .ok (.aload_n 0, 1) := by decide +kernel
theorem d_Md_found_47 : decode M_Md_found.2.1 47 = .ok (.iload 4, 2) := by decide +kernel
theorem d_Md_found_49 : decode M_Md_found.2.1 49 = .ok (.iload_n 1, 1) := by decide +kernel
theorem d_Md_found_50 : decode M_Md_found.2.1 50 = .ok (.invokevirtual 291, 3) := by decide +kernel
theorem d_Md_found_53 : decode M_Md_found.2.1 53 = .ok (.aload_n 0, 1) := by decide +kernel
theorem d_Md_found_54 : decode M_Md_found.2.1 54 = .ok (.iload_n 3, 1) := by decide +kernel
theorem d_Md_found_55 : decode M_Md_found.2.1 55 = .ok (.iload_n 1, 1) := by decide +kernel
theorem d_Md_found_56 : decode M_Md_found.2.1 56 = .ok (.invokevirtual 291, 3) := by decide +kernel
theorem d_Md_found_59 : decode M_Md_found.2.1 59 = .ok (.if_icmp .eq 14, 3) := by decide +kernel
theorem d_Md_found_62 : decode M_Md_found.2.1 62 = .ok (.iload_n 2, 1) := by decide +kernel
theorem d_Md_found_63 : decode M_Md_found.2.1 63 = .ok (.ifCond .ne 7, 3) := by decide +kernel
theorem d_Md_found_66 : decode M_Md_found.2.1 66 = .ok (.iload_n 3, 1) := by decide +kernel
theorem d_Md_found_67 : decode M_Md_found.2.1 67 = .ok (.goto 5, 3) := by decide +kernel
theorem d_Md_found_70 : decode M_Md_found.2.1 70 = .ok (.iload 4, 2) := by decide +kernel
theorem d_Md_found_72 : decode M_Md_found.2.1 72 = .ok (.ireturn, 1) := by decide +kernel
theorem d_Md_found_73 : decode M_Md_found.2.1 73 = .ok (.iinc 4 1, 3) := by decide +kernel
theorem d_Md_found_76 : decode M_Md_found.2.1 76 = .ok (.goto (-47), 3) := by decide +kernel
theorem d_Md_found_79 : decode M_Md_found.2.1 79 = .ok (.iinc 3 1, 3) := by decide +kernel
theorem d_Md_found_82 : decode M_Md_found.2.1 82 = .ok (.goto (-62), 3) := by decide +kernel
theorem d_Md_found_85 : decode M_Md_found.2.1 85 = .ok (.iconst (-1), 1) := by decide +kernel
theorem d_Md_found_86 : decode M_Md_found.2.1 86 = .ok (.ireturn, 1) := by decide +kernel
theorem d_Md_hasBy_0 : decode M_Md_hasBy.2.1 0 = .ok (.iload_n 3, 1) := by decide +kernel
theorem d_Md_hasBy_1 : decode M_Md_hasBy.2.1 1 = .ok (.iload_n 1, 1) := by decide +kernel
theorem d_Md_hasBy_2 : decode M_Md_hasBy.2.1 2 = .ok (.ishr, 1) := by decide +kernel
theorem d_Md_hasBy_3 : decode M_Md_hasBy.2.1 3 = .ok (.iconst 1, 1) := by decide +kernel
theorem d_Md_hasBy_4 : decode M_Md_hasBy.2.1 4 = .ok (.iand, 1) := by decide +kernel
theorem d_Md_hasBy_5 : decode M_Md_hasBy.2.1 5 = .ok (.istore 4, 2) := by decide +kernel
theorem d_Md_hasBy_7 : decode M_Md_hasBy.2.1 7 = .ok (.iconst 0, 1) := by decide +kernel
theorem d_Md_hasBy_8 : decode M_Md_hasBy.2.1 8 = .ok (.istore 5, 2) := by decide +kernel
theorem d_Md_hasBy_10 : decode M_Md_hasBy.2.1 10 = .ok (.iconst 0, 1) := by decide +kernel
theorem d_Md_hasBy_11 : decode M_Md_hasBy.2.1 11 = .ok (.istore 6, 2) := by decide +kernel
theorem d_Md_hasBy_13 : decode M_Md_hasBy.2.1 13 = .ok (.iload 6, 2) := by decide +kernel
theorem d_Md_hasBy_15 : decode M_Md_hasBy.2.1 15 = .ok (.iconst 4, 1) := by decide +kernel
theorem d_Md_hasBy_16 : decode M_Md_hasBy.2.1 16 = .ok (.if_icmp .ge 36, 3) := by decide +kernel
theorem d_Md_hasBy_19 : decode M_Md_hasBy.2.1 19 = .ok (.iload 5, 2) := by decide +kernel
theorem d_Md_hasBy_21 : decode M_Md_hasBy.2.1 21 = .ok (.iload 6, 2) := by decide +kernel
theorem d_Md_hasBy_23 : decode M_Md_hasBy.2.1 23 = .ok (.iload_n 1, 1) := by decide +kernel
theorem d_Md_hasBy_24 : decode M_Md_hasBy.2.1 24 = .ok (.if_icmp .eq 18, 3) := by decide +kernel
theorem d_Md_hasBy_27 : decode M_Md_hasBy.2.1 27 = .ok (.iload_n 3, 1) := by decide +kernel
theorem d_Md_hasBy_28 : decode M_Md_hasBy.2.1 28 = .ok (.iload 6, 2) := by decide +kernel
theorem d_Md_hasBy_30 : decode M_Md_hasBy.2.1 30 = .ok (.ishr, 1) := by decide +kernel
theorem d_Md_hasBy_31 : decode M_Md_hasBy.2.1 31 = .ok (.iconst 1, 1) := by decide +kernel
theorem d_Md_hasBy_32 : decode M_Md_hasBy.2.1 32 = .ok (.iand, 1) := by decide +kernel
theorem d_Md_hasBy_33 : decode M_Md_hasBy.2.1 33 = .ok (.iload 4, 2) := by decide +kernel
theorem d_Md_hasBy_35 : decode M_Md_hasBy.2.1 35 = .ok (.if_icmp .eq 7, 3) := by decide +kernel
theorem d_Md_hasBy_38 : decode M_Md_hasBy.2.1 38 = .ok (.iconst 1, 1) := by decide +kernel
theorem d_Md_hasBy_39 : decode M_Md_hasBy.2.1 39 = .ok (.goto 4, 3) := by decide +kernel
theorem d_Md_hasBy_42 : decode M_Md_hasBy.2.1 42 = .ok (.iconst 0, 1) := by decide +kernel
theorem d_Md_hasBy_43 : decode M_Md_hasBy.2.1 43 = .ok (.iadd, 1) := by decide +kernel
theorem d_Md_hasBy_44 : decode M_Md_hasBy.2.1 44 = .ok (.istore 5, 2) := by decide +kernel
theorem d_Md_hasBy_46 : decode M_Md_hasBy.2.1 46 = .ok (.iinc 6 1, 3) := by decide +kernel
theorem d_Md_hasBy_49 : decode M_Md_hasBy.2.1 49 = .ok (.goto (-36), 3) := by decide +kernel
theorem d_Md_hasBy_52 : decode M_Md_hasBy.2.1 52 = .ok (.iconst 0, 1) := by decide +kernel
theorem d_Md_hasBy_53 : decode M_Md_hasBy.2.1 53 = .ok (.istore 6, 2) := by decide +kernel
theorem d_Md_hasBy_55 : decode M_Md_hasBy.2.1 55 = .ok (.aload_n 0, 1) := by decide +kernel
theorem d_Md_hasBy_56 : decode M_Md_hasBy.2.1 56 = .ok (.iconst 5, 1) := by decide +kernel
theorem d_Md_hasBy_57 : decode M_Md_hasBy.2.1 57 = .ok (.invokevirtual 295, 3) := by decide +kernel
theorem d_Md_hasBy_60 : decode M_Md_hasBy.2.1 60 = .ok (.ifCond .eq 51, 3) := by decide +kernel
theorem d_Md_hasBy_63 : decode M_Md_hasBy.2.1 63 = .ok (.aload_n 0, 1) := by decide +kernel
theorem d_Md_hasBy_64 : decode M_Md_hasBy.2.1 64 = .ok (.getfield 66, 3) := by decide +kernel
theorem d_Md_hasBy_67 : decode M_Md_hasBy.2.1 67 = .ok (.iconst 0, 1) := by decide +kernel
theorem d_Md_hasBy_68 : decode M_Md_hasBy.2.1 68 = .ok (.iload_n 2, 1) := by decide +kernel
theorem d_Md_hasBy_69 : decode M_Md_hasBy.2.1 69 = .ok (.iastore, 1) := by decide +kernel
theorem d_Md_hasBy_70 : decode M_Md_hasBy.2.1 70 = .ok (.aload_n 0, 1) := by decide +kernel
theorem d_Md_hasBy_71 : decode M_Md_hasBy.2.1 71 = .ok (.getfield 66, 3) := by decide +kernel
theorem d_Md_hasBy_74 : decode M_Md_hasBy.2.1 74 = .ok (.iconst 1, 1) := by decide +kernel
theorem d_Md_hasBy_75 : decode M_Md_hasBy.2.1 75 = .ok (.iload_n 1, 1) := by decide +kernel
theorem d_Md_hasBy_76 : decode M_Md_hasBy.2.1 76 = .ok (.iastore, 1) := by decide +kernel
theorem d_Md_hasBy_77 : decode M_Md_hasBy.2.1 77 = .ok (.aload_n 0, 1) := by decide +kernel
theorem d_Md_hasBy_78 : decode M_Md_hasBy.2.1 78 = .ok (.getfield 66, 3) := by decide +kernel
theorem d_Md_hasBy_81 : decode M_Md_hasBy.2.1 81 = .ok (.bipush 11, 2) := by decide +kernel
theorem d_Md_hasBy_83 : decode M_Md_hasBy.2.1 83 = .ok (.iload 4, 2) := by decide +kernel
theorem d_Md_hasBy_85 : decode M_Md_hasBy.2.1 85 = .ok (.iastore, 1) := by decide +kernel
theorem d_Md_hasBy_86 : decode M_Md_hasBy.2.1 86 = .ok (.aload_n 0, 1) := by decide +kernel
theorem d_Md_hasBy_87 : decode M_Md_hasBy.2.1 87 = .ok (.getfield 66, 3) := by decide +kernel
theorem d_Md_hasBy_90 : decode M_Md_hasBy.2.1 90 = .ok (.bipush 12, 2) := by decide +kernel
theorem d_Md_hasBy_92 : decode M_Md_hasBy.2.1 92 = .ok (.iload 5, 2) := by decide +kernel
theorem d_Md_hasBy_94 : decode M_Md_hasBy.2.1 94 = .ok (.iastore, 1) := by decide +kernel
theorem d_Md_hasBy_95 : decode M_Md_hasBy.2.1 95 = .ok (.aload_n 0, 1) := by decide +kernel
theorem d_Md_hasBy_96 : decode M_Md_hasBy.2.1 96 = .ok (.iconst 5, 1) := by decide +kernel
theorem d_Md_hasBy_97 : decode M_Md_hasBy.2.1 97 = .ok (.invokevirtual 301, 3) := by decide +kernel
theorem d_Md_hasBy_100 : decode M_Md_hasBy.2.1 100 = .ok (.sipush (-999), 3) := by decide +kernel
theorem d_Md_hasBy_103 : decode M_Md_hasBy.2.1 103 = .ok (.sipush 999, 3) := by decide +kernel
theorem d_Md_hasBy_106 : decode M_Md_hasBy.2.1 106 = .ok (.invokestatic 322, 3) := by decide +kernel
theorem d_Md_hasBy_109 : decode M_Md_hasBy.2.1 109 = .ok (.istore 6, 2) := by decide +kernel
theorem d_Md_hasBy_111 : decode M_Md_hasBy.2.1 111 = .ok (.aload_n 0, 1) := by decide +kernel
theorem d_Md_hasBy_112 : decode M_Md_hasBy.2.1 112 = .ok (.getfield 79, 3) := by decide +kernel
theorem d_Md_hasBy_115 : decode M_Md_hasBy.2.1 115 = .ok (.iconst 2, 1) := by decide +kernel
theorem d_Md_hasBy_116 : decode M_Md_hasBy.2.1 116 = .ok (.iload_n 1, 1) := by decide +kernel
theorem d_Md_hasBy_117 : decode M_Md_hasBy.2.1 117 = .ok (.imul, 1) := by decide +kernel
theorem d_Md_hasBy_118 : decode M_Md_hasBy.2.1 118 = .ok (.iload 4, 2) := by decide +kernel
theorem d_Md_hasBy_120 : decode M_Md_hasBy.2.1 120 = .ok (.iadd, 1) := by decide +kernel
theorem d_Md_hasBy_121 : decode M_Md_hasBy.2.1 121 = .ok (.iaload, 1) := by decide +kernel
theorem d_Md_hasBy_122 : decode M_Md_hasBy.2.1 122 = .ok (.iload 6, 2) := by decide +kernel
theorem d_Md_hasBy_124 : decode M_Md_hasBy.2.1 124 = .ok (.iadd, 1) := by decide +kernel
theorem d_Md_hasBy_125 : decode M_Md_hasBy.2.1 125 = .ok (.ireturn, 1) := by decide +kernel
theorem d_Md_even_0 : decode M_Md_even.2.1 0 = .ok (.iload_n 1, 1) := by decide +kernel
theorem d_Md_even_1 : decode M_Md_even.2.1 1 = .ok (.invokestatic 97, 3) := by decide +kernel
theorem d_Md_even_4 : decode M_Md_even.2.1 4 = .ok (.ifCond .eq 8, 3) := by decide +kernel
theorem d_Md_even_7 : decode M_Md_even.2.1 7 = .ok (.iload_n 2, 1) := by decide +kernel
theorem d_Md_even_8 : decode M_Md_even.2.1 8 = .ok (.iconst (-1), 1) := by decide +kernel
theorem d_Md_even_9 : decode M_Md_even.2.1 9 = .ok (.if_icmp .ge 5, 3) := by decide +kernel
theorem d_Md_even_12 : decode M_Md_even.2.1 12 = .ok (.iconst (-1), 1) := by decide +kernel
theorem d_Md_even_13 : decode M_Md_even.2.1 13 = .ok (.ireturn, 1) := by decide +kernel
theorem d_Md_even_14 : decode M_Md_even.2.1 14 = .ok (.iconst 0, 1) := by decide +kernel
theorem d_Md_even_15 : decode M_Md_even.2.1 15 = .ok (.istore_n 3, 1) := by decide +kernel
theorem d_Md_even_16 : decode M_Md_even.2.1 16 = .ok (.iload_n 3, 1) := by decide +kernel
theorem d_Md_even_17 : decode M_Md_even.2.1 17 = .ok (.bipush 8, 2) := by decide +kernel
theorem d_Md_even_19 : decode M_Md_even.2.1 19 = .ok (.if_icmp .ge 26, 3) := by decide +kernel
theorem d_Md_even_22 : decode M_Md_even.2.1 22 = .ok (.aload_n 0, 1) := by decide +kernel
theorem d_Md_even_23 : decode M_Md_even.2.1 23 = .ok (.getfield 79, 3) := by decide +kernel
theorem d_Md_even_26 : decode M_Md_even.2.1 26 = .ok (.iload_n 3, 1) := by decide +kernel
theorem d_Md_even_27 : decode M_Md_even.2.1 27 = .ok (.aload_n 0, 1) := by decide +kernel
theorem d_Md_even_28 : decode M_Md_even.2.1 28 = .ok (.iload_n 3, 1) := by decide +kernel
theorem d_Md_even_29 : decode M_Md_even.2.1 29 = .ok (.iconst 2, 1) := by decide +kernel
theorem d_Md_even_30 : decode M_Md_even.2.1 30 = .ok (.idiv, 1) := by decide +kernel
theorem d_Md_even_31 : decode M_Md_even.2.1 31 = .ok (.iload_n 1, 1) := by decide +kernel
theorem d_Md_even_32 : decode M_Md_even.2.1 32 = .ok (.iload_n 3, 1) := by decide +kernel
theorem d_Md_even_33 : decode M_Md_even.2.1 33 = .ok (.iconst 2, 1) := by decide +kernel
theorem d_Md_even_34 : decode M_Md_even.2.1 34 = .ok (.irem, 1) := by decide +kernel
theorem d_Md_even_35 : decode M_Md_even.2.1 35 = .ok (.invokevirtual 352, 3) := by decide +kernel
theorem d_Md_even_38 : decode M_Md_even.2.1 38 = .ok (.iastore, 1) := by decide +kernel
theorem d_Md_even_39 : decode M_Md_even.2.1 39 = .ok (.iinc 3 1, 3) := by decide +kernel
theorem d_Md_even_42 : decode M_Md_even.2.1 42 = .ok (.goto (-26), 3) := by decide +kernel
theorem d_Md_even_45 : decode M_Md_even.2.1 45 = .ok (.iconst 0, 1) := by decide +kernel
theorem d_Md_even_46 : decode M_Md_even.2.1 46 = .ok (.istore_n 3, 1) := by decide +kernel
theorem d_Md_even_47 : decode M_Md_even.2.1 47 = .ok (.iconst 0, 1) := by decide +kernel
theorem d_Md_even_48 : decode M_Md_even.2.1 48 = .ok (.istore 4, 2) := by decide +kernel
theorem d_Md_even_50 : decode M_Md_even.2.1 50 = .ok (.iload 4, 2) := by decide +kernel
theorem d_Md_even_52 : decode M_Md_even.2.1 52 = .ok (.bipush 16, 2) := by decide +kernel
theorem d_Md_even_54 : decode M_Md_even.2.1 54 = .ok (.if_icmp .ge 81, 3) := by decide +kernel
theorem d_Md_even_57 : decode M_Md_even.2.1 57 = .ok (.iconst 1, 1) := by decide +kernel
theorem d_Md_even_58 : decode M_Md_even.2.1 58 = .ok (.istore 5, 2) := by decide +kernel
theorem d_Md_even_60 : decode M_Md_even.2.1 60 = .ok (.iconst 0, 1) := by decide +kernel
theorem d_Md_even_61 : decode M_Md_even.2.1 61 = .ok (.istore 6, 2) := by decide +kernel
theorem d_Md_even_63 : decode M_Md_even.2.1 63 = .ok (.iload 6, 2) := by decide +kernel
theorem d_Md_even_65 : decode M_Md_even.2.1 65 = .ok (.iconst 4, 1) := by decide +kernel
theorem d_Md_even_66 : decode M_Md_even.2.1 66 = .ok (.if_icmp .ge 47, 3) := by decide +kernel
theorem d_Md_even_69 : decode M_Md_even.2.1 69 = .ok (.iload 5, 2) := by decide +kernel
theorem d_Md_even_71 : decode M_Md_even.2.1 71 = .ok (.ifCond .eq 33, 3) := by decide +kernel
theorem d_Md_even_74 : decode M_Md_even.2.1 74 = .ok (.aload_n 0, 1) := by decide +kernel
theorem d_Md_even_75 : decode M_Md_even.2.1 75 = .ok (.iload 6, 2) := by decide +kernel
theorem d_Md_even_77 : decode M_Md_even.2.1 77 = .ok (.iload_n 1, 1) := by decide +kernel
theorem d_Md_even_78 : decode M_Md_even.2.1 78 = .ok (.iload 4, 2) := by decide +kernel
theorem d_Md_even_80 : decode M_Md_even.2.1 80 = .ok (.iconst 1, 1) := by decide +kernel
theorem d_Md_even_81 : decode M_Md_even.2.1 81 = .ok (.iload 6, 2) := by decide +kernel
theorem d_Md_even_83 : decode M_Md_even.2.1 83 = .ok (.ishl, 1) := by decide +kernel
theorem d_Md_even_84 : decode M_Md_even.2.1 84 = .ok (.ixor, 1) := by decide +kernel
theorem d_Md_even_85 : decode M_Md_even.2.1 85 = .ok (.invokevirtual 362, 3) := by decide +kernel
theorem d_Md_even_88 : decode M_Md_even.2.1 88 = .ok (.aload_n 0, 1) := by decide +kernel
theorem d_Md_even_89 : decode M_Md_even.2.1 89 = .ok (.iload 6, 2) := by decide +kernel
theorem d_Md_even_91 : decode M_Md_even.2.1 91 = .ok (.iload_n 1, 1) := by decide +kernel
theorem d_Md_even_92 : decode M_Md_even.2.1 92 = .ok (.iload 4, 2) := by decide +kernel
theorem d_Md_even_94 : decode M_Md_even.2.1 94 = .ok (.invokevirtual 362, 3) := by decide +kernel
theorem d_Md_even_97 : decode M_Md_even.2.1 97 = .ok (.if_icmp .gt 7, 3) := by decide +kernel
theorem d_Md_even_100 : decode M_Md_even.2.1 100 = .ok (.iconst 1, 1) := by decide +kernel
theorem d_Md_even_101 : decode M_Md_even.2.1 101 = .ok (.goto 4, 3) := by decide +kernel
theorem d_Md_even_104 : decode M_Md_even.2.1 104 = .ok (.iconst 0, 1) := by decide +kernel
theorem d_Md_even_105 : decode M_Md_even.2.1 105 = .ok (.istore 5, 2) := by decide +kernel
theorem d_Md_even_107 : decode M_Md_even.2.1 107 = .ok (.iinc 6 1, 3) := by decide +kernel
theorem d_Md_even_110 : decode M_Md_even.2.1 110 = .ok (.goto (-47), 3) := by decide +kernel
theorem d_Md_even_113 : decode M_Md_even.2.1 113 = .ok (.iload 5, 2) := by decide +kernel
theorem d_Md_even_115 : decode M_Md_even.2.1 115 = .ok (.ifCond .eq 14, 3) := by decide +kernel
theorem d_Md_even_118 : decode M_Md_even.2.1 118 = .ok (.iload_n 3, 1) := by decide +kernel
theorem d_Md_even_119 : decode M_Md_even.2.1 119 = .ok (.iload_n 2, 1) := by decide +kernel
theorem d_Md_even_120 : decode M_Md_even.2.1 120 = .ok (.if_icmp .ne 6, 3) := by decide +kernel
theorem d_Md_even_123 : decode M_Md_even.2.1 123 = .ok (.iload 4, 2) := by decide +kernel
theorem d_Md_even_125 : decode M_Md_even.2.1 125 = .ok (.ireturn, 1) := by decide +kernel
theorem d_Md_even_126 : decode M_Md_even.2.1 126 = .ok (.iinc 3 1, 3) := by decide +kernel
theorem d_Md_even_129 : decode M_Md_even.2.1 129 = .ok (.iinc 4 1, 3) := by decide +kernel
theorem d_Md_even_132 : decode M_Md_even.2.1 132 = .ok (.goto (-82), 3) := by decide +kernel
theorem d_Md_even_135 : decode M_Md_even.2.1 135 = .ok (.iload_n 2, 1) := by decide +kernel
theorem d_Md_even_136 : decode M_Md_even.2.1 136 = .ok (.iconst (-1), 1) := by decide +kernel
theorem d_Md_even_137 : decode M_Md_even.2.1 137 = .ok (.if_icmp .ne 7, 3) := by decide +kernel
theorem d_Md_even_140 : decode M_Md_even.2.1 140 = .ok (.iload_n 3, 1) := by decide +kernel
theorem d_Md_even_141 : decode M_Md_even.2.1 141 = .ok (.goto 4, 3) := by decide +kernel
theorem d_Md_even_144 : decode M_Md_even.2.1 144 = .ok (.iconst (-1), 1) := by decide +kernel
theorem d_Md_even_145 : decode M_Md_even.2.1 145 = .ok (.ireturn, 1) := by decide +kernel
theorem d_Md_flood_0 : decode M_Md_flood.2.1 0 = .ok (.iload_n 1, 1) := by decide +kernel
theorem d_Md_flood_1 : decode M_Md_flood.2.1 1 = .ok (.iconst (-1), 1) := by decide +kernel
theorem d_Md_flood_2 : decode M_Md_flood.2.1 2 = .ok (.if_icmp .ge 5, 3) := by decide +kernel
theorem d_Md_flood_5 : decode M_Md_flood.2.1 5 = .ok (.iconst (-1), 1) := by decide +kernel
theorem d_Md_flood_6 : decode M_Md_flood.2.1 6 = .ok (.ireturn, 1) := by decide +kernel
theorem d_Md_flood_7 : decode M_Md_flood.2.1 7 = .ok (.iconst 0, 1) := by decide +kernel
theorem d_Md_flood_8 : decode M_Md_flood.2.1 8 = .ok (.istore_n 2, 1) := by decide +kernel
theorem d_Md_flood_9 : decode M_Md_flood.2.1 9 = .ok (.iconst 0, 1) := by decide +kernel
theorem d_Md_flood_10 : decode M_Md_flood.2.1 10 = .ok (.istore_n 3, 1) := by decide +kernel
theorem d_Md_flood_11 : decode M_Md_flood.2.1 11 = .ok (.iload_n 3, 1) := by decide +kernel
theorem d_Md_flood_12 : decode M_Md_flood.2.1 12 = .ok (.bipush 30, 2) := by decide +kernel
theorem d_Md_flood_14 : decode M_Md_flood.2.1 14 = .ok (.if_icmp .ge 68, 3) := by decide +kernel
theorem d_Md_flood_17 : decode M_Md_flood.2.1 17 = .ok (.iconst 0, 1) := by decide +kernel
theorem d_Md_flood_18 : decode M_Md_flood.2.1 18 = .ok (.istore 4, 2) := by decide +kernel
theorem d_Md_flood_20 : decode M_Md_flood.2.1 20 = .ok (.iconst 0, 1) := by decide +kernel
theorem d_Md_flood_21 : decode M_Md_flood.2.1 21 = .ok (.istore 5, 2) := by decide +kernel
theorem d_Md_flood_23 : decode M_Md_flood.2.1 23 = .ok (.iload 5, 2) := by decide +kernel
theorem d_Md_flood_25 : decode M_Md_flood.2.1 25 = .ok (.iconst 4, 1) := by decide +kernel
theorem d_Md_flood_26 : decode M_Md_flood.2.1 26 = .ok (.if_icmp .ge 21, 3) := by decide +kernel
theorem d_Md_flood_29 : decode M_Md_flood.2.1 29 = .ok (.iload 4, 2) := by decide +kernel
theorem d_Md_flood_31 : decode M_Md_flood.2.1 31 = .ok (.aload_n 0, 1) := by decide +kernel
theorem d_Md_flood_32 : decode M_Md_flood.2.1 32 = .ok (.iload_n 3, 1) := by decide +kernel
theorem d_Md_flood_33 : decode M_Md_flood.2.1 33 = .ok (.iload 5, 2) := by decide +kernel
theorem d_Md_flood_35 : decode M_Md_flood.2.1 35 = .ok (.invokevirtual 291, 3) := by decide +kernel
theorem d_Md_flood_38 : decode M_Md_flood.2.1 38 = .ok (.iadd, 1) := by decide +kernel
theorem d_Md_flood_39 : decode M_Md_flood.2.1 39 = .ok (.istore 4, 2) := by decide +kernel
theorem d_Md_flood_41 : decode M_Md_flood.2.1 41 = .ok (.iinc 5 1, 3) := by decide +kernel
theorem d_Md_flood_44 : decode M_Md_flood.2.1 44 = .ok (.goto (-21), 3) := by decide +kernel
theorem d_Md_flood_47 : decode M_Md_flood.2.1 47 = .ok (.iload 4, 2) := by decide +kernel
theorem d_Md_flood_49 : decode M_Md_flood.2.1 49 = .ok (.iconst 4, 1) := by decide +kernel
theorem d_Md_flood_50 : decode M_Md_flood.2.1 50 = .ok (.if_icmp .ne 26, 3) := by decide +kernel
theorem d_Md_flood_53 : decode M_Md_flood.2.1 53 = .ok (.aload_n 0, 1) := by decide +kernel
theorem d_Md_flood_54 : decode M_Md_flood.2.1 54 = .ok (.getfield 7, 3) := by decide +kernel
theorem d_Md_flood_57 : decode M_Md_flood.2.1 57 = .ok (.bipush 10, 2) := by decide +kernel
theorem d_Md_flood_59 : decode M_Md_flood.2.1 59 = .ok (.iload_n 3, 1) := by decide +kernel
theorem d_Md_flood_60 : decode M_Md_flood.2.1 60 = .ok (.iadd, 1) := by decide +kernel
theorem d_Md_flood_61 : decode M_Md_flood.2.1 61 = .ok (.iaload, 1) := by decide +kernel
theorem d_Md_flood_62 : decode M_Md_flood.2.1 62 = .ok (.iconst 5, 1) := by decide +kernel
theorem d_Md_flood_63 : decode M_Md_flood.2.1 63 = .ok (.if_icmp .ge 13, 3) := by decide +kernel
theorem d_Md_flood_66 : decode M_Md_flood.2.1 66 = .ok (.iload_n 2, 1) := by decide +kernel
theorem d_Md_flood_67 : decode M_Md_flood.2.1 67 = .ok (.iload_n 1, 1) := by decide +kernel
theorem d_Md_flood_68 : decode M_Md_flood.2.1 68 = .ok (.if_icmp .ne 5, 3) := by decide +kernel
theorem d_Md_flood_71 : decode M_Md_flood.2.1 71 = .ok (.iload_n 3, 1) := by decide +kernel
theorem d_Md_flood_72 : decode M_Md_flood.2.1 72 = .ok (.ireturn, 1) := by decide +kernel
theorem d_Md_flood_73 : decode M_Md_flood.2.1 73 = .ok (.iinc 2 1, 3) := by decide +kernel
theorem d_Md_flood_76 : decode M_Md_flood.2.1 76 = .ok (.iinc 3 1, 3) := by decide +kernel
theorem d_Md_flood_79 : decode M_Md_flood.2.1 79 = .ok (.goto (-68), 3) := by decide +kernel
theorem d_Md_flood_82 : decode M_Md_flood.2.1 82 = .ok (.iload_n 1, 1) := by decide +kernel
theorem d_Md_flood_83 : decode M_Md_flood.2.1 83 = .ok (.iconst (-1), 1) := by decide +kernel
theorem d_Md_flood_84 : decode M_Md_flood.2.1 84 = .ok (.if_icmp .ne 7, 3) := by decide +kernel
theorem d_Md_flood_87 : decode M_Md_flood.2.1 87 = .ok (.iload_n 2, 1) := by decide +kernel
theorem d_Md_flood_88 : decode M_Md_flood.2.1 88 = .ok (.goto 4, 3) := by decide +kernel
theorem d_Md_flood_91 : decode M_Md_flood.2.1 91 = .ok (.iconst (-1), 1) := by decide +kernel
theorem d_Md_flood_92 : decode M_Md_flood.2.1 92 = .ok (.ireturn, 1) := by decide +kernel
theorem d_Md_reform_0 : decode M_Md_reform.2.1 0 = .ok (.iload_n 1, 1) := by decide +kernel
theorem d_Md_reform_1 : decode M_Md_reform.2.1 1 = .ok (.iconst 0, 1) := by decide +kernel
theorem d_Md_reform_2 : decode M_Md_reform.2.1 2 = .ok (.iconst 1, 1) := by decide +kernel
theorem d_Md_reform_3 : decode M_Md_reform.2.1 3 = .ok (.invokestatic 89, 3) := by decide +kernel
theorem d_Md_reform_6 : decode M_Md_reform.2.1 6 = .ok (.ifCond .eq 13, 3) := by decide +kernel
theorem d_Md_reform_9 : decode M_Md_reform.2.1 9 = .ok (.aload_n 0, 1) := by decide +kernel
theorem d_Md_reform_10 : decode M_Md_reform.2.1 10 = .ok (.getfield 7, 3) := by decide +kernel
theorem d_Md_reform_13 : decode M_Md_reform.2.1 13 = .ok (.iconst 3, 1) := by decide +kernel
theorem d_Md_reform_14 : decode M_Md_reform.2.1 14 = .ok (.iaload, 1) := by decide +kernel
theorem d_Md_reform_15 : decode M_Md_reform.2.1 15 = .ok (.iconst (-1), 1) := by decide +kernel
theorem d_Md_reform_16 : decode M_Md_reform.2.1 16 = .ok (.if_icmp .ne 5, 3) := by decide +kernel
theorem d_Md_reform_19 : decode M_Md_reform.2.1 19 = .ok (.iconst (-1), 1) := by decide +kernel
theorem d_Md_reform_20 : decode M_Md_reform.2.1 20 = .ok (.ireturn, 1) := by decide +kernel
theorem d_Md_reform_21 : decode M_Md_reform.2.1 21 = .ok (.aload_n 0, 1) := by decide +kernel
theorem d_Md_reform_22 : decode M_Md_reform.2.1 22 = .ok (.iconst 0, 1) := by decide +kernel
theorem d_Md_reform_23 : decode M_Md_reform.2.1 23 = .ok (.bipush 29, 2) := by decide +kernel
theorem d_Md_reform_25 : decode M_Md_reform.2.1 25 = .ok (.iconst 0, 1) := by decide +kernel
theorem d_Md_reform_26 : decode M_Md_reform.2.1 26 = .ok (.invokevirtual 346, 3) := by decide +kernel
theorem d_Md_reform_29 : decode M_Md_reform.2.1 29 = .ok (.istore_n 2, 1) := by decide +kernel
theorem d_Md_reform_30 : decode M_Md_reform.2.1 30 = .ok (.iconst (-1), 1) := by decide +kernel
theorem d_Md_reform_31 : decode M_Md_reform.2.1 31 = .ok (.istore_n 3, 1) := by decide +kernel
theorem d_Md_reform_32 : decode M_Md_reform.2.1 32 = .ok (.iconst 0, 1) := by decide +kernel
theorem d_Md_reform_33 : decode M_Md_reform.2.1 33 = .ok (.istore 4, 2) := by decide +kernel
theorem d_Md_reform_35 : decode M_Md_reform.2.1 35 = .ok (.iconst 0, 1) := by decide +kernel
theorem d_Md_reform_36 : decode M_Md_reform.2.1 36 = .ok (.istore 5, 2) := by decide +kernel
theorem d_Md_reform_38 : decode M_Md_reform.2.1 38 = .ok (.iload 5, 2) := by decide +kernel
theorem d_Md_reform_40 : decode M_Md_reform.2.1 40 = .ok (.aload_n 0, 1) := by decide +kernel
theorem d_Md_reform_41 : decode M_Md_reform.2.1 41 = .ok (.getfield 27, 3) := by decide +kernel
theorem d_Md_reform_44 : decode M_Md_reform.2.1 44 = .ok (.aload_n 0, 1) := by decide +kernel
theorem d_Md_reform_45 : decode M_Md_reform.2.1 45 = .ok (.getfield 7, 3) := by decide +kernel
theorem d_Md_reform_48 : decode M_Md_reform.2.1 48 = .ok (.iconst 3, 1) := by decide +kernel
theorem d_Md_reform_49 : decode M_Md_reform.2.1 49 = .ok (.iaload, 1) := by decide +kernel
theorem d_Md_reform_50 : decode M_Md_reform.2.1 50 = .ok (.iaload, 1) := by decide +kernel
theorem d_Md_reform_51 : decode M_Md_reform.2.1 51 = .ok (.if_icmp .ge 84, 3) := by decide +kernel
theorem d_Md_reform_54 : decode M_Md_reform.2.1 54 = .ok (.iconst 0, 1) := by decide +kernel
theorem d_Md_reform_55 : decode M_Md_reform.2.1 55 = .ok (.istore 6, 2) := by decide +kernel
theorem d_Md_reform_57 : decode M_Md_reform.2.1 57 = .ok (.iload 6, 2) := by decide +kernel
theorem d_Md_reform_59 : decode M_Md_reform.2.1 59 = .ok (.bipush 6, 2) := by decide +kernel
theorem d_Md_reform_61 : decode M_Md_reform.2.1 61 = .ok (.if_icmp .ge 68, 3) := by decide +kernel
theorem d_Md_reform_64 : decode M_Md_reform.2.1 64 = .ok (.aload_n 0, 1) := by decide +kernel
theorem d_Md_reform_65 : decode M_Md_reform.2.1 65 = .ok (.getfield 33, 3) := by decide +kernel
theorem d_Md_reform_68 : decode M_Md_reform.2.1 68 = .ok (.bipush 6, 2) := by decide +kernel
theorem d_Md_reform_70 : decode M_Md_reform.2.1 70 = .ok (.aload_n 0, 1) := by decide +kernel
theorem d_Md_reform_71 : decode M_Md_reform.2.1 71 = .ok (.getfield 7, 3) := by decide +kernel
theorem d_Md_reform_74 : decode M_Md_reform.2.1 74 = .ok (.iconst 3, 1) := by decide +kernel
theorem d_Md_reform_75 : decode M_Md_reform.2.1 75 = .ok (.iaload, 1) := by decide +kernel
theorem d_Md_reform_76 : decode M_Md_reform.2.1 76 = .ok (.imul, 1) := by decide +kernel
theorem d_Md_reform_77 : decode M_Md_reform.2.1 77 = .ok (.iload 6, 2) := by decide +kernel
theorem d_Md_reform_79 : decode M_Md_reform.2.1 79 = .ok (.iadd, 1) := by decide +kernel
theorem d_Md_reform_80 : decode M_Md_reform.2.1 80 = .ok (.iaload, 1) := by decide +kernel
theorem d_Md_reform_81 : decode M_Md_reform.2.1 81 = .ok (.iload 5, 2) := by decide +kernel
theorem d_Md_reform_83 : decode M_Md_reform.2.1 83 = .ok (.if_icmp .ne 40, 3) := by decide +kernel
theorem d_Md_reform_86 : decode M_Md_reform.2.1 86 = .ok (.aload_n 0, 1) := by decide +kernel
theorem d_Md_reform_87 : decode M_Md_reform.2.1 87 = .ok (.iload 6, 2) := by decide +kernel
theorem d_Md_reform_89 : decode M_Md_reform.2.1 89 = .ok (.putfield 73, 3) := by decide +kernel
theorem d_Md_reform_92 : decode M_Md_reform.2.1 92 = .ok (.aload_n 0, 1) := by decide +kernel
theorem d_Md_reform_93 : decode M_Md_reform.2.1 93 = .ok (.iconst 0, 1) := by decide +kernel
theorem d_Md_reform_94 : decode M_Md_reform.2.1 94 = .ok (.bipush 29, 2) := by decide +kernel
theorem d_Md_reform_96 : decode M_Md_reform.2.1 96 = .ok (.iconst 0, 1) := by decide +kernel
theorem d_Md_reform_97 : decode M_Md_reform.2.1 97 = .ok (.invokevirtual 346, 3) := by decide +kernel
theorem d_Md_reform_100 : decode M_Md_reform.2.1 100 = .ok (.iload_n 2, 1) := by decide +kernel
theorem d_Md_reform_101 : decode M_Md_reform.2.1 101 = .ok (.isub, 1) := by decide +kernel
theorem d_Md_reform_102 : decode M_Md_reform.2.1 102 = .ok (.istore 7, 2) := by decide +kernel
theorem d_Md_reform_104 : decode M_Md_reform.2.1 104 = .ok (.aload_n 0, 1) := by decide +kernel
theorem d_Md_reform_105 : decode M_Md_reform.2.1 105 = .ok (.iconst (-1), 1) := by decide +kernel
theorem d_Md_reform_106 : decode M_Md_reform.2.1 106 = .ok (.putfield 73, 3) := by decide +kernel
theorem d_Md_reform_109 : decode M_Md_reform.2.1 109 = .ok (.iload 7, 2) := by decide +kernel
theorem d_Md_reform_111 : decode M_Md_reform.2.1 111 = .ok (.iload 4, 2) := by decide +kernel
theorem d_Md_reform_113 : decode M_Md_reform.2.1 113 = .ok (.if_icmp .le 10, 3) := by decide +kernel
theorem d_Md_reform_116 : decode M_Md_reform.2.1 116 = .ok (.iload 7, 2) := by decide +kernel
theorem d_Md_reform_118 : decode M_Md_reform.2.1 118 = .ok (.istore 4, 2) := by decide +kernel
theorem d_Md_reform_120 : decode M_Md_reform.2.1 120 = .ok (.iload 5, 2) := by decide +kernel
theorem d_Md_reform_122 : decode M_Md_reform.2.1 122 = .ok (.istore_n 3, 1) := by decide +kernel
theorem d_Md_reform_123 : decode M_Md_reform.2.1 123 = .ok (.iinc 6 1, 3) := by decide +kernel
theorem d_Md_reform_126 : decode M_Md_reform.2.1 126 = .ok (.goto (-69), 3) := by decide +kernel
theorem d_Md_reform_129 : decode M_Md_reform.2.1 129 = .ok (.iinc 5 1, 3) := by decide +kernel
theorem d_Md_reform_132 : decode M_Md_reform.2.1 132 = .ok (.goto (-94), 3) := by decide +kernel
theorem d_Md_reform_135 : decode M_Md_reform.2.1 135 = .ok (.iload_n 3, 1) := by decide +kernel
theorem d_Md_reform_136 : decode M_Md_reform.2.1 136 = .ok (.iconst (-1), 1) := by decide +kernel
theorem d_Md_reform_137 : decode M_Md_reform.2.1 137 = .ok (.if_icmp .ne 7, 3) := by decide +kernel
theorem d_Md_reform_140 : decode M_Md_reform.2.1 140 = .ok (.iconst (-1), 1) := by decide +kernel
theorem d_Md_reform_141 : decode M_Md_reform.2.1 141 = .ok (.goto 13, 3) := by decide +kernel
theorem d_Md_reform_144 : decode M_Md_reform.2.1 144 = .ok (.iload_n 1, 1) := by decide +kernel
theorem d_Md_reform_145 : decode M_Md_reform.2.1 145 = .ok (.ifCond .ne 7, 3) := by decide +kernel
theorem d_Md_reform_148 : decode M_Md_reform.2.1 148 = .ok (.iload_n 3, 1) := by decide +kernel
theorem d_Md_reform_149 : decode M_Md_reform.2.1 149 = .ok (.goto 5, 3) := by decide +kernel
theorem d_Md_reform_152 : decode M_Md_reform.2.1 152 = .ok (.iload 4, 2) := by decide +kernel
theorem d_Md_reform_154 : decode M_Md_reform.2.1 154 = .ok (.ireturn, 1) := by decide +kernel
theorem d_Md_isSmall_0 : decode M_Md_isSmall.2.1 0 = .ok (.iload_n 0, 1) := by decide +kernel
theorem d_Md_isSmall_1 : decode M_Md_isSmall.2.1 1 = .ok (.bipush 97, 2) := by decide +kernel
theorem d_Md_isSmall_3 : decode M_Md_isSmall.2.1 3 = .ok (.bipush 122, 2) := by decide +kernel
theorem d_Md_isSmall_5 : decode M_Md_isSmall.2.1 5 = .ok (.invokestatic 89, 3) := by decide +kernel
theorem d_Md_isSmall_8 : decode M_Md_isSmall.2.1 8 = .ok (.ireturn, 1) := by decide +kernel
theorem d_Md_isVowel_0 : decode M_Md_isVowel.2.1 0 = .ok (.iload_n 0, 1) := by decide +kernel
theorem d_Md_isVowel_1 : decode M_Md_isVowel.2.1 1 = .ok (.bipush 97, 2) := by decide +kernel
theorem d_Md_isVowel_3 : decode M_Md_isVowel.2.1 3 = .ok (.if_icmp .eq 27, 3) := by decide +kernel
theorem d_Md_isVowel_6 : decode M_Md_isVowel.2.1 6 = .ok (.iload_n 0, 1) := by decide +kernel
theorem d_Md_isVowel_7 : decode M_Md_isVowel.2.1 7 = .ok (.bipush 101, 2) := by decide +kernel
theorem d_Md_isVowel_9 : decode M_Md_isVowel.2.1 9 = .ok (.if_icmp .eq 21, 3) := by decide +kernel
theorem d_Md_isVowel_12 : decode M_Md_isVowel.2.1 12 = .ok (.iload_n 0, 1) := by decide +kernel
theorem d_Md_isVowel_13 : decode M_Md_isVowel.2.1 13 = .ok (.bipush 105, 2) := by decide +kernel
theorem d_Md_isVowel_15 : decode M_Md_isVowel.2.1 15 = .ok (.if_icmp .eq 15, 3) := by decide +kernel
theorem d_Md_isVowel_18 : decode M_Md_isVowel.2.1 18 = .ok (.iload_n 0, 1) := by decide +kernel
theorem d_Md_isVowel_19 : decode M_Md_isVowel.2.1 19 = .ok (.bipush 111, 2) := by decide +kernel
theorem d_Md_isVowel_21 : decode M_Md_isVowel.2.1 21 = .ok (.if_icmp .eq 9, 3) := by decide +kernel
theorem d_Md_isVowel_24 : decode M_Md_isVowel.2.1 24 = .ok (.iload_n 0, 1) := by decide +kernel
theorem d_Md_isVowel_25 : decode M_Md_isVowel.2.1 25 = .ok (.bipush 117, 2) := by decide +kernel
theorem d_Md_isVowel_27 : decode M_Md_isVowel.2.1 27 = .ok (.if_icmp .ne 7, 3) := by decide +kernel
theorem d_Md_isVowel_30 : decode M_Md_isVowel.2.1 30 = .ok (.iconst 1, 1) := by decide +kernel
theorem d_Md_isVowel_31 : decode M_Md_isVowel.2.1 31 = .ok (.goto 4, 3) := by decide +kernel
theorem d_Md_isVowel_34 : decode M_Md_isVowel.2.1 34 = .ok (.iconst 0, 1) := by decide +kernel
theorem d_Md_isVowel_35 : decode M_Md_isVowel.2.1 35 = .ok (.ireturn, 1) := by decide +kernel
theorem d_Md_words_0 : decode M_Md_words.2.1 0 = .ok (.iconst 0, 1) := by decide +kernel
theorem d_Md_words_1 : decode M_Md_words.2.1 1 = .ok (.istore_n 2, 1) := by decide +kernel
theorem d_Md_words_2 : decode M_Md_words.2.1 2 = .ok (.iconst 0, 1) := by decide +kernel
theorem d_Md_words_3 : decode M_Md_words.2.1 3 = .ok (.istore_n 3, 1) := by decide +kernel
theorem d_Md_words_4 : decode M_Md_words.2.1 4 = .ok (.iload_n 3, 1) := by decide +kernel
theorem d_Md_words_5 : decode M_Md_words.2.1 5 = .ok (.aload_n 0, 1) := by decide +kernel
theorem d_Md_words_6 : decode M_Md_words.2.1 6 = .ok (.getfield 107, 3) := by decide +kernel
theorem d_Md_words_9 : decode M_Md_words.2.1 9 = .ok (.if_icmp .ge 102, 3) := by decide +kernel
theorem d_Md_words_12 : decode M_Md_words.2.1 12 = .ok (.aload_n 0, 1) := by decide +kernel
theorem d_Md_words_13 : decode M_Md_words.2.1 13 = .ok (.getfield 16, 3) := by decide +kernel
theorem d_Md_words_16 : decode M_Md_words.2.1 16 = .ok (.iload_n 3, 1) := by decide +kernel
theorem d_Md_words_17 : decode M_Md_words.2.1 17 = .ok (.baload, 1) := by decide +kernel
theorem d_Md_words_18 : decode M_Md_words.2.1 18 = .ok (.invokestatic 365, 3) := by decide +kernel
theorem d_Md_words_21 : decode M_Md_words.2.1 21 = .ok (.ifCond .eq 71, 3) := by decide +kernel
theorem d_Md_words_24 : decode M_Md_words.2.1 24 = .ok (.iload_n 1, 1) := by decide +kernel
theorem d_Md_words_25 : decode M_Md_words.2.1 25 = .ok (.istore 4, 2) := by decide +kernel
theorem d_Md_words_27 : decode M_Md_words.2.1 27 = .ok (.iload_n 3, 1) := by decide +kernel
theorem d_Md_words_28 : decode M_Md_words.2.1 28 = .ok (.aload_n 0, 1) := by decide +kernel
theorem d_Md_words_29 : decode M_Md_words.2.1 29 = .ok (.getfield 107, 3) := by decide +kernel
theorem d_Md_words_32 : decode M_Md_words.2.1 32 = .ok (.if_icmp .ge 43, 3) := by decide +kernel
theorem d_Md_words_35 : decode M_Md_words.2.1 35 = .ok (.aload_n 0, 1) := by decide +kernel
theorem d_Md_words_36 : decode M_Md_words.2.1 36 = .ok (.getfield 16, 3) := by decide +kernel
theorem d_Md_words_39 : decode M_Md_words.2.1 39 = .ok (.iload_n 3, 1) := by decide +kernel
theorem d_Md_words_40 : decode M_Md_words.2.1 40 = .ok (.baload, 1) := by decide +kernel
theorem d_Md_words_41 : decode M_Md_words.2.1 41 = .ok (.invokestatic 365, 3) := by decide +kernel
theorem d_Md_words_44 : decode M_Md_words.2.1 44 = .ok (.ifCond .eq 31, 3) := by decide +kernel
theorem d_Md_words_47 : decode M_Md_words.2.1 47 = .ok (.iload 4, 2) := by decide +kernel
theorem d_Md_words_49 : decode M_Md_words.2.1 49 = .ok (.aload_n 0, 1) := by decide +kernel
theorem d_Md_words_50 : decode M_Md_words.2.1 50 = .ok (.getfield 16, 3) := by decide +kernel
theorem d_Md_words_53 : decode M_Md_words.2.1 53 = .ok (.iload_n 3, 1) := by decide +kernel
theorem d_Md_words_54 : decode M_Md_words.2.1 54 = .ok (.baload, 1) := by decide +kernel
theorem d_Md_words_55 : decode M_Md_words.2.1 55 = .ok (.invokestatic 368, 3) := by decide +kernel
theorem d_Md_words_58 : decode M_Md_words.2.1 58 = .ok (.ifCond .eq 7, 3) := by decide +kernel
theorem d_Md_words_61 : decode M_Md_words.2.1 61 = .ok (.iconst 1, 1) := by decide +kernel
theorem d_Md_words_62 : decode M_Md_words.2.1 62 = .ok (.goto 4, 3) := by decide +kernel
theorem d_Md_words_65 : decode M_Md_words.2.1 65 = .ok (.iconst 0, 1) := by decide +kernel
theorem d_Md_words_66 : decode M_Md_words.2.1 66 = .ok (.iadd, 1) := by decide +kernel
theorem d_Md_words_67 : decode M_Md_words.2.1 67 = .ok (.istore 4, 2) := by decide +kernel
theorem d_Md_words_69 : decode M_Md_words.2.1 69 = .ok (.iinc 3 1, 3) := by decide +kernel
theorem d_Md_words_72 : decode M_Md_words.2.1 72 = .ok (.goto (-45), 3) := by decide +kernel
theorem d_Md_words_75 : decode M_Md_words.2.1 75 = .ok (.aload_n 0, 1) := by decide +kernel
theorem d_Md_words_76 : decode M_Md_words.2.1 76 = .ok (.getfield 82, 3) := by decide +kernel
theorem d_Md_words_79 : decode M_Md_words.2.1 79 = .ok (.iload_n 2, 1) := by decide +kernel
theorem d_Md_words_80 : decode M_Md_words.2.1 80 = .ok (.iload 4, 2) := by decide +kernel
theorem d_Md_words_82 : decode M_Md_words.2.1 82 = .ok (.bipush 10, 2) := by decide +kernel
theorem d_Md_words_84 : decode M_Md_words.2.1 84 = .ok (.irem, 1) := by decide +kernel
theorem d_Md_words_85 : decode M_Md_words.2.1 85 = .ok (.iastore, 1) := by decide +kernel
theorem d_Md_words_86 : decode M_Md_words.2.1 86 = .ok (.iinc 2 1, 3) := by decide +kernel
theorem d_Md_words_89 : decode M_Md_words.2.1 89 = .ok (.goto (-85), 3) := by decide +kernel
theorem d_Md_words_92 : decode M_Md_words.2.1 92 = .ok (.aload_n 0, 1) := by decide +kernel
theorem d_Md_words_93 : decode M_Md_words.2.1 93 = .ok (.getfield 16, 3) := by decide +kernel
theorem d_Md_words_96 : decode M_Md_words.2.1 96 = .ok (.iload_n 3, 1) := by decide +kernel
theorem d_Md_words_97 : decode M_Md_words.2.1 97 = .ok (.baload, 1) := by decide +kernel
theorem d_Md_words_98 : decode M_Md_words.2.1 98 = .ok (.bipush 32, 2) := by decide +kernel
theorem d_Md_words_100 : decode M_Md_words.2.1 100 = .ok (.if_icmp .ne 9, 3) := by decide +kernel
theorem d_Md_words_103 : decode M_Md_words.2.1 103 = .ok (.iinc 3 1, 3) := by decide +kernel
theorem d_Md_words_106 : decode M_Md_words.2.1 106 = .ok (.goto (-102), 3) := by decide +kernel
theorem d_Md_words_109 : decode M_Md_words.2.1 109 = .ok (.iconst 0, 1) := by decide +kernel
theorem d_Md_words_110 : decode M_Md_words.2.1 110 = .ok (.ireturn, 1) := by decide +kernel
theorem d_Md_words_111 : decode M_Md_words.2.1 111 = .ok (.iload_n 2, 1) := by decide +kernel
theorem d_Md_words_112 : decode M_Md_words.2.1 112 = .ok (.ireturn, 1) := by decide +kernel
theorem d_Md_songOf_0 : decode M_Md_songOf.2.1 0 = .ok (.iload_n 1, 1) := by decide +kernel
theorem d_Md_songOf_1 : decode M_Md_songOf.2.1 1 = .ok (.invokestatic 97, 3) := by decide +kernel
theorem d_Md_songOf_4 : decode M_Md_songOf.2.1 4 = .ok (.ifCond .eq 13, 3) := by decide +kernel
theorem d_Md_songOf_7 : decode M_Md_songOf.2.1 7 = .ok (.iload_n 2, 1) := by decide +kernel
theorem d_Md_songOf_8 : decode M_Md_songOf.2.1 8 = .ok (.iconst 0, 1) := by decide +kernel
theorem d_Md_songOf_9 : decode M_Md_songOf.2.1 9 = .ok (.bipush 9, 2) := by decide +kernel
theorem d_Md_songOf_11 : decode M_Md_songOf.2.1 11 = .ok (.invokestatic 89, 3) := by decide +kernel
theorem d_Md_songOf_14 : decode M_Md_songOf.2.1 14 = .ok (.ifCond .ne 5, 3) := by decide +kernel
theorem d_Md_songOf_17 : decode M_Md_songOf.2.1 17 = .ok (.iconst (-1), 1) := by decide +kernel
theorem d_Md_songOf_18 : decode M_Md_songOf.2.1 18 = .ok (.ireturn, 1) := by decide +kernel
theorem d_Md_songOf_19 : decode M_Md_songOf.2.1 19 = .ok (.aload_n 0, 1) := by decide +kernel
theorem d_Md_songOf_20 : decode M_Md_songOf.2.1 20 = .ok (.iload_n 2, 1) := by decide +kernel
theorem d_Md_songOf_21 : decode M_Md_songOf.2.1 21 = .ok (.invokevirtual 371, 3) := by decide +kernel
theorem d_Md_songOf_24 : decode M_Md_songOf.2.1 24 = .ok (.istore_n 3, 1) := by decide +kernel
theorem d_Md_songOf_25 : decode M_Md_songOf.2.1 25 = .ok (.iload_n 3, 1) := by decide +kernel
theorem d_Md_songOf_26 : decode M_Md_songOf.2.1 26 = .ok (.ifCond .eq 11, 3) := by decide +kernel
theorem d_Md_songOf_29 : decode M_Md_songOf.2.1 29 = .ok (.iload_n 1, 1) := by decide +kernel
theorem d_Md_songOf_30 : decode M_Md_songOf.2.1 30 = .ok (.iload_n 3, 1) := by decide +kernel
theorem d_Md_songOf_31 : decode M_Md_songOf.2.1 31 = .ok (.iadd, 1) := by decide +kernel
theorem d_Md_songOf_32 : decode M_Md_songOf.2.1 32 = .ok (.bipush 30, 2) := by decide +kernel
theorem d_Md_songOf_34 : decode M_Md_songOf.2.1 34 = .ok (.if_icmp .le 7, 3) := by decide +kernel
theorem d_Md_songOf_37 : decode M_Md_songOf.2.1 37 = .ok (.iconst (-1), 1) := by decide +kernel
theorem d_Md_songOf_38 : decode M_Md_songOf.2.1 38 = .ok (.goto 4, 3) := by decide +kernel
theorem d_Md_songOf_41 : decode M_Md_songOf.2.1 41 = .ok (.iload_n 3, 1) := by decide +kernel
theorem d_Md_songOf_42 : decode M_Md_songOf.2.1 42 = .ok (.ireturn, 1) := by decide +kernel
theorem d_Md_sing_0 : decode M_Md_sing.2.1 0 = .ok (.aload_n 0, 1) := by decide +kernel
theorem d_Md_sing_1 : decode M_Md_sing.2.1 1 = .ok (.iload_n 1, 1) := by decide +kernel
theorem d_Md_sing_2 : decode M_Md_sing.2.1 2 = .ok (.iload_n 2, 1) := by decide +kernel
theorem d_Md_sing_3 : decode M_Md_sing.2.1 3 = .ok (.invokevirtual 374, 3) := by decide +kernel
theorem d_Md_sing_6 : decode M_Md_sing.2.1 6 = .ok (.istore_n 3, 1) := by decide +kernel
theorem d_Md_sing_7 : decode M_Md_sing.2.1 7 = .ok (.iload_n 3, 1) := by decide +kernel
theorem d_Md_sing_8 : decode M_Md_sing.2.1 8 = .ok (.iconst (-1), 1) := by decide +kernel
theorem d_Md_sing_9 : decode M_Md_sing.2.1 9 = .ok (.if_icmp .ne 5, 3) := by decide +kernel
theorem d_Md_sing_12 : decode M_Md_sing.2.1 12 = .ok (.iconst (-1), 1) := by decide +kernel
theorem d_Md_sing_13 : decode M_Md_sing.2.1 13 = .ok (.ireturn, 1) := by decide +kernel
theorem d_Md_sing_14 : decode M_Md_sing.2.1 14 = .ok (.iconst 0, 1) := by decide +kernel
theorem d_Md_sing_15 : decode M_Md_sing.2.1 15 = .ok (.istore 4, 2) := by decide +kernel
theorem d_Md_sing_17 : decode M_Md_sing.2.1 17 = .ok (.iload 4, 2) := by decide +kernel
theorem d_Md_sing_19 : decode M_Md_sing.2.1 19 = .ok (.iload_n 3, 1) := by decide +kernel
theorem d_Md_sing_20 : decode M_Md_sing.2.1 20 = .ok (.if_icmp .ge 28, 3) := by decide +kernel
theorem d_Md_sing_23 : decode M_Md_sing.2.1 23 = .ok (.aload_n 0, 1) := by decide +kernel
theorem d_Md_sing_24 : decode M_Md_sing.2.1 24 = .ok (.getfield 7, 3) := by decide +kernel
theorem d_Md_sing_27 : decode M_Md_sing.2.1 27 = .ok (.bipush 10, 2) := by decide +kernel
theorem d_Md_sing_29 : decode M_Md_sing.2.1 29 = .ok (.iload_n 1, 1) := by decide +kernel
theorem d_Md_sing_30 : decode M_Md_sing.2.1 30 = .ok (.iadd, 1) := by decide +kernel
theorem d_Md_sing_31 : decode M_Md_sing.2.1 31 = .ok (.iload 4, 2) := by decide +kernel
theorem d_Md_sing_33 : decode M_Md_sing.2.1 33 = .ok (.iadd, 1) := by decide +kernel
theorem d_Md_sing_34 : decode M_Md_sing.2.1 34 = .ok (.aload_n 0, 1) := by decide +kernel
theorem d_Md_sing_35 : decode M_Md_sing.2.1 35 = .ok (.getfield 82, 3) := by decide +kernel
theorem d_Md_sing_38 : decode M_Md_sing.2.1 38 = .ok (.iload 4, 2) := by decide +kernel
theorem d_Md_sing_40 : decode M_Md_sing.2.1 40 = .ok (.iaload, 1) := by decide +kernel
theorem d_Md_sing_41 : decode M_Md_sing.2.1 41 = .ok (.iastore, 1) := by decide +kernel
theorem d_Md_sing_42 : decode M_Md_sing.2.1 42 = .ok (.iinc 4 1, 3) := by decide +kernel
theorem d_Md_sing_45 : decode M_Md_sing.2.1 45 = .ok (.goto (-28), 3) := by decide +kernel
theorem d_Md_sing_48 : decode M_Md_sing.2.1 48 = .ok (.aload_n 0, 1) := by decide +kernel
theorem d_Md_sing_49 : decode M_Md_sing.2.1 49 = .ok (.iconst 0, 1) := by decide +kernel
theorem d_Md_sing_50 : decode M_Md_sing.2.1 50 = .ok (.putfield 107, 3) := by decide +kernel
theorem d_Md_sing_53 : decode M_Md_sing.2.1 53 = .ok (.iload_n 3, 1) := by decide +kernel
theorem d_Md_sing_54 : decode M_Md_sing.2.1 54 = .ok (.ireturn, 1) := by decide +kernel
theorem d_Md_heard_0 : decode M_Md_heard.2.1 0 = .ok (.aload_n 0, 1) := by decide +kernel
theorem d_Md_heard_1 : decode M_Md_heard.2.1 1 = .ok (.iload_n 1, 1) := by decide +kernel
theorem d_Md_heard_2 : decode M_Md_heard.2.1 2 = .ok (.iload_n 2, 1) := by decide +kernel
theorem d_Md_heard_3 : decode M_Md_heard.2.1 3 = .ok (.invokevirtual 374, 3) := by decide +kernel
theorem d_Md_heard_6 : decode M_Md_heard.2.1 6 = .ok (.istore_n 3, 1) := by decide +kernel
theorem d_Md_heard_7 : decode M_Md_heard.2.1 7 = .ok (.iconst 0, 1) := by decide +kernel
theorem d_Md_heard_8 : decode M_Md_heard.2.1 8 = .ok (.istore 4, 2) := by decide +kernel
theorem d_Md_heard_10 : decode M_Md_heard.2.1 10 = .ok (.iconst 0, 1) := by decide +kernel
theorem d_Md_heard_11 : decode M_Md_heard.2.1 11 = .ok (.istore 5, 2) := by decide +kernel
theorem d_Md_heard_13 : decode M_Md_heard.2.1 13 = .ok (.iload 5, 2) := by decide +kernel
theorem d_Md_heard_15 : decode M_Md_heard.2.1 15 = .ok (.iload_n 3, 1) := by decide +kernel
theorem d_Md_heard_16 : decode M_Md_heard.2.1 16 = .ok (.if_icmp .ge 41, 3) := by decide +kernel
theorem d_Md_heard_19 : decode M_Md_heard.2.1 19 = .ok (.iload 4, 2) := by decide +kernel
theorem d_Md_heard_21 : decode M_Md_heard.2.1 21 = .ok (.aload_n 0, 1) := by decide +kernel
theorem d_Md_heard_22 : decode M_Md_heard.2.1 22 = .ok (.getfield 7, 3) := by decide +kernel
theorem d_Md_heard_25 : decode M_Md_heard.2.1 25 = .ok (.bipush 10, 2) := by decide +kernel
theorem d_Md_heard_27 : decode M_Md_heard.2.1 27 = .ok (.iload_n 1, 1) := by decide +kernel
theorem d_Md_heard_28 : decode M_Md_heard.2.1 28 = .ok (.iadd, 1) := by decide +kernel
theorem d_Md_heard_29 : decode M_Md_heard.2.1 29 = .ok (.iload 5, 2) := by decide +kernel
theorem d_Md_heard_31 : decode M_Md_heard.2.1 31 = .ok (.iadd, 1) := by decide +kernel
theorem d_Md_heard_32 : decode M_Md_heard.2.1 32 = .ok (.iaload, 1) := by decide +kernel
theorem d_Md_heard_33 : decode M_Md_heard.2.1 33 = .ok (.aload_n 0, 1) := by decide +kernel
theorem d_Md_heard_34 : decode M_Md_heard.2.1 34 = .ok (.getfield 82, 3) := by decide +kernel
theorem d_Md_heard_37 : decode M_Md_heard.2.1 37 = .ok (.iload 5, 2) := by decide +kernel
theorem d_Md_heard_39 : decode M_Md_heard.2.1 39 = .ok (.iaload, 1) := by decide +kernel
theorem d_Md_heard_40 : decode M_Md_heard.2.1 40 = .ok (.if_icmp .ne 7, 3) := by decide +kernel
theorem d_Md_heard_43 : decode M_Md_heard.2.1 43 = .ok (.iconst 1, 1) := by decide +kernel
theorem d_Md_heard_44 : decode M_Md_heard.2.1 44 = .ok (.goto 4, 3) := by decide +kernel
theorem d_Md_heard_47 : decode M_Md_heard.2.1 47 = .ok (.iconst 0, 1) := by decide +kernel
theorem d_Md_heard_48 : decode M_Md_heard.2.1 48 = .ok (.iadd, 1) := by decide +kernel
theorem d_Md_heard_49 : decode M_Md_heard.2.1 49 = .ok (.istore 4, 2) := by decide +kernel
theorem d_Md_heard_51 : decode M_Md_heard.2.1 51 = .ok (.iinc 5 1, 3) := by decide +kernel
theorem d_Md_heard_54 : decode M_Md_heard.2.1 54 = .ok (.goto (-41), 3) := by decide +kernel
theorem d_Md_heard_57 : decode M_Md_heard.2.1 57 = .ok (.iload_n 3, 1) := by decide +kernel
theorem d_Md_heard_58 : decode M_Md_heard.2.1 58 = .ok (.iconst (-1), 1) := by decide +kernel
theorem d_Md_heard_59 : decode M_Md_heard.2.1 59 = .ok (.if_icmp .ne 7, 3) := by decide +kernel
theorem d_Md_heard_62 : decode M_Md_heard.2.1 62 = .ok (.iconst (-1), 1) := by decide +kernel
theorem d_Md_heard_63 : decode M_Md_heard.2.1 63 = .ok (.goto 5, 3) := by decide +kernel
theorem d_Md_heard_66 : decode M_Md_heard.2.1 66 = .ok (.iload 4, 2) := by decide +kernel
theorem d_Md_heard_68 : decode M_Md_heard.2.1 68 = .ok (.ireturn, 1) := by decide +kernel
theorem d_Md_copies_0 : decode M_Md_copies.2.1 0 = .ok (.iconst 0, 1) := by decide +kernel
theorem d_Md_copies_1 : decode M_Md_copies.2.1 1 = .ok (.istore_n 2, 1) := by decide +kernel
theorem d_Md_copies_2 : decode M_Md_copies.2.1 2 = .ok (.iload_n 2, 1) := by decide +kernel
theorem d_Md_copies_3 : decode M_Md_copies.2.1 3 = .ok (.sipush 270, 3) := by decide +kernel
theorem d_Md_copies_6 : decode M_Md_copies.2.1 6 = .ok (.if_icmp .ge 40, 3) := by decide +kernel
theorem d_Md_copies_9 : decode M_Md_copies.2.1 9 = .ok (.iload_n 1, 1) := by decide +kernel
theorem d_Md_copies_10 : decode M_Md_copies.2.1 10 = .ok (.ifCond .eq 18, 3) := by decide +kernel
theorem d_Md_copies_13 : decode M_Md_copies.2.1 13 = .ok (.aload_n 0, 1) := by decide +kernel
theorem d_Md_copies_14 : decode M_Md_copies.2.1 14 = .ok (.getfield 13, 3) := by decide +kernel
theorem d_Md_copies_17 : decode M_Md_copies.2.1 17 = .ok (.iload_n 2, 1) := by decide +kernel
theorem d_Md_copies_18 : decode M_Md_copies.2.1 18 = .ok (.aload_n 0, 1) := by decide +kernel
theorem d_Md_copies_19 : decode M_Md_copies.2.1 19 = .ok (.getfield 7, 3) := by decide +kernel
theorem d_Md_copies_22 : decode M_Md_copies.2.1 22 = .ok (.iload_n 2, 1) := by decide +kernel
theorem d_Md_copies_23 : decode M_Md_copies.2.1 23 = .ok (.iaload, 1) := by decide +kernel
theorem d_Md_copies_24 : decode M_Md_copies.2.1 24 = .ok (.iastore, 1) := by decide +kernel
theorem d_Md_copies_25 : decode M_Md_copies.2.1 25 = .ok (.goto 15, 3) := by decide +kernel
theorem d_Md_copies_28 : decode M_Md_copies.2.1 28 = .ok (.aload_n 0, 1) := by decide +kernel
theorem d_Md_copies_29 : decode M_Md_copies.2.1 29 = .ok (.getfield 7, 3) := by decide +kernel
theorem d_Md_copies_32 : decode M_Md_copies.2.1 32 = .ok (.iload_n 2, 1) := by decide +kernel
theorem d_Md_copies_33 : decode M_Md_copies.2.1 33 = .ok (.aload_n 0, 1) := by decide +kernel
theorem d_Md_copies_34 : decode M_Md_copies.2.1 34 = .ok (.getfield 13, 3) := by decide +kernel
theorem d_Md_copies_37 : decode M_Md_copies.2.1 37 = .ok (.iload_n 2, 1) := by decide +kernel
theorem d_Md_copies_38 : decode M_Md_copies.2.1 38 = .ok (.iaload, 1) := by decide +kernel
theorem d_Md_copies_39 : decode M_Md_copies.2.1 39 = .ok (.iastore, 1) := by decide +kernel
theorem d_Md_copies_40 : decode M_Md_copies.2.1 40 = .ok (.iinc 2 1, 3) := by decide +kernel
theorem d_Md_copies_43 : decode M_Md_copies.2.1 43 = .ok (.goto (-41), 3) := by decide +kernel
theorem d_Md_copies_46 : decode M_Md_copies.2.1 46 = .ok (.return_, 1) := by decide +kernel
theorem d_Md_image_0 : decode M_Md_image.2.1 0 = .ok (.aload_n 0, 1) := by decide +kernel
theorem d_Md_image_1 : decode M_Md_image.2.1 1 = .ok (.iconst 1, 1) := by decide +kernel
theorem d_Md_image_2 : decode M_Md_image.2.1 2 = .ok (.invokevirtual 85, 3) := by decide +kernel
theorem d_Md_image_5 : decode M_Md_image.2.1 5 = .ok (.aload_n 0, 1) := by decide +kernel
theorem d_Md_image_6 : decode M_Md_image.2.1 6 = .ok (.getfield 7, 3) := by decide +kernel
theorem d_Md_image_9 : decode M_Md_image.2.1 9 = .ok (.iconst 0, 1) := by decide +kernel
theorem d_Md_image_10 : decode M_Md_image.2.1 10 = .ok (.iaload, 1) := by decide +kernel
theorem d_Md_image_11 : decode M_Md_image.2.1 11 = .ok (.ireturn, 1) := by decide +kernel
theorem d_Md_back_0 : decode M_Md_back.2.1 0 = .ok (.aload_n 0, 1) := by decide +kernel
theorem d_Md_back_1 : decode M_Md_back.2.1 1 = .ok (.iconst 0, 1) := by decide +kernel
theorem d_Md_back_2 : decode M_Md_back.2.1 2 = .ok (.invokevirtual 85, 3) := by decide +kernel
theorem d_Md_back_5 : decode M_Md_back.2.1 5 = .ok (.aload_n 0, 1) := by decide +kernel
theorem d_Md_back_6 : decode M_Md_back.2.1 6 = .ok (.getfield 7, 3) := by decide +kernel
theorem d_Md_back_9 : decode M_Md_back.2.1 9 = .ok (.iconst 0, 1) := by decide +kernel
theorem d_Md_back_10 : decode M_Md_back.2.1 10 = .ok (.iaload, 1) := by decide +kernel
theorem d_Md_back_11 : decode M_Md_back.2.1 11 = .ok (.ireturn, 1) := by decide +kernel
theorem d_Md_wetDecrees_0 : decode M_Md_wetDecrees.2.1 0 = .ok (.iconst 0, 1) := by decide +kernel
theorem d_Md_wetDecrees_1 : decode M_Md_wetDecrees.2.1 1 = .ok (.istore_n 1, 1) := by decide +kernel
theorem d_Md_wetDecrees_2 : decode M_Md_wetDecrees.2.1 2 = .ok (.iconst 0, 1) := by decide +kernel
theorem d_Md_wetDecrees_3 : decode M_Md_wetDecrees.2.1 3 = .ok (.istore_n 2, 1) := by decide +kernel
theorem d_Md_wetDecrees_4 : decode M_Md_wetDecrees.2.1 4 = .ok (.iload_n 2, 1) := by decide +kernel
theorem d_Md_wetDecrees_5 : decode M_Md_wetDecrees.2.1 5 = .ok (.bipush 120, 2) := by decide +kernel
theorem d_Md_wetDecrees_7 : decode M_Md_wetDecrees.2.1 7 = .ok (.if_icmp .ge 21, 3) := by decide +kernel
theorem d_Md_wetDecrees_10 : decode M_Md_wetDecrees.2.1 10 = .ok (.iload_n 1, 1) := by decide +kernel
theorem d_Md_wetDecrees_11 : decode M_Md_wetDecrees.2.1 11 = .ok (.aload_n 0, 1) := by decide +kernel
theorem d_Md_wetDecrees_12 : decode M_Md_wetDecrees.2.1 12 = .ok (.getfield 7, 3) := by decide +kernel
theorem d_Md_wetDecrees_15 : decode M_Md_wetDecrees.2.1 15 = .ok (.bipush 40, 2) := by decide +kernel
theorem d_Md_wetDecrees_17 : decode M_Md_wetDecrees.2.1 17 = .ok (.iload_n 2, 1) := by decide +kernel
theorem d_Md_wetDecrees_18 : decode M_Md_wetDecrees.2.1 18 = .ok (.iadd, 1) := by decide +kernel
theorem d_Md_wetDecrees_19 : decode M_Md_wetDecrees.2.1 19 = .ok (.iaload, 1) := by decide +kernel
theorem d_Md_wetDecrees_20 : decode M_Md_wetDecrees.2.1 20 = .ok (.iadd, 1) := by decide +kernel
theorem d_Md_wetDecrees_21 : decode M_Md_wetDecrees.2.1 21 = .ok (.istore_n 1, 1) := by decide +kernel
theorem d_Md_wetDecrees_22 : decode M_Md_wetDecrees.2.1 22 = .ok (.iinc 2 1, 3) := by decide +kernel
theorem d_Md_wetDecrees_25 : decode M_Md_wetDecrees.2.1 25 = .ok (.goto (-21), 3) := by decide +kernel
theorem d_Md_wetDecrees_28 : decode M_Md_wetDecrees.2.1 28 = .ok (.iload_n 1, 1) := by decide +kernel
theorem d_Md_wetDecrees_29 : decode M_Md_wetDecrees.2.1 29 = .ok (.ireturn, 1) := by decide +kernel
theorem d_Md_about_0 : decode M_Md_about.2.1 0 = .ok (.iload_n 1, 1) := by decide +kernel
theorem d_Md_about_1 : decode M_Md_about.2.1 1 = .ok (.tableswitch 97 0 7 #[47, 54, 61, 68, 75, 82, 87, 92], 47) := by decide +kernel
theorem d_Md_about_48 : decode M_Md_about.2.1 48 = .ok (.aload_n 0, 1) := by decide +kernel
theorem d_Md_about_49 : decode M_Md_about.2.1 49 = .ok (.getfield 7, 3) := by decide +kernel
theorem d_Md_about_52 : decode M_Md_about.2.1 52 = .ok (.iconst 0, 1) := by decide +kernel
theorem d_Md_about_53 : decode M_Md_about.2.1 53 = .ok (.iaload, 1) := by decide +kernel
theorem d_Md_about_54 : decode M_Md_about.2.1 54 = .ok (.ireturn, 1) := by decide +kernel
theorem d_Md_about_55 : decode M_Md_about.2.1 55 = .ok (.aload_n 0, 1) := by decide +kernel
theorem d_Md_about_56 : decode M_Md_about.2.1 56 = .ok (.getfield 7, 3) := by decide +kernel
theorem d_Md_about_59 : decode M_Md_about.2.1 59 = .ok (.iconst 1, 1) := by decide +kernel
theorem d_Md_about_60 : decode M_Md_about.2.1 60 = .ok (.iaload, 1) := by decide +kernel
theorem d_Md_about_61 : decode M_Md_about.2.1 61 = .ok (.ireturn, 1) := by decide +kernel
theorem d_Md_about_62 : decode M_Md_about.2.1 62 = .ok (.aload_n 0, 1) := by decide +kernel
theorem d_Md_about_63 : decode M_Md_about.2.1 63 = .ok (.getfield 7, 3) := by decide +kernel
theorem d_Md_about_66 : decode M_Md_about.2.1 66 = .ok (.iconst 2, 1) := by decide +kernel
theorem d_Md_about_67 : decode M_Md_about.2.1 67 = .ok (.iaload, 1) := by decide +kernel
theorem d_Md_about_68 : decode M_Md_about.2.1 68 = .ok (.ireturn, 1) := by decide +kernel
theorem d_Md_about_69 : decode M_Md_about.2.1 69 = .ok (.aload_n 0, 1) := by decide +kernel
theorem d_Md_about_70 : decode M_Md_about.2.1 70 = .ok (.getfield 7, 3) := by decide +kernel
theorem d_Md_about_73 : decode M_Md_about.2.1 73 = .ok (.iconst 3, 1) := by decide +kernel
theorem d_Md_about_74 : decode M_Md_about.2.1 74 = .ok (.iaload, 1) := by decide +kernel
theorem d_Md_about_75 : decode M_Md_about.2.1 75 = .ok (.ireturn, 1) := by decide +kernel
theorem d_Md_about_76 : decode M_Md_about.2.1 76 = .ok (.aload_n 0, 1) := by decide +kernel
theorem d_Md_about_77 : decode M_Md_about.2.1 77 = .ok (.getfield 7, 3) := by decide +kernel
theorem d_Md_about_80 : decode M_Md_about.2.1 80 = .ok (.iconst 4, 1) := by decide +kernel
theorem d_Md_about_81 : decode M_Md_about.2.1 81 = .ok (.iaload, 1) := by decide +kernel
theorem d_Md_about_82 : decode M_Md_about.2.1 82 = .ok (.ireturn, 1) := by decide +kernel
theorem d_Md_about_83 : decode M_Md_about.2.1 83 = .ok (.aload_n 0, 1) := by decide +kernel
theorem d_Md_about_84 : decode M_Md_about.2.1 84 = .ok (.getfield 107, 3) := by decide +kernel
theorem d_Md_about_87 : decode M_Md_about.2.1 87 = .ok (.ireturn, 1) := by decide +kernel
theorem d_Md_about_88 : decode M_Md_about.2.1 88 = .ok (.aload_n 0, 1) := by decide +kernel
theorem d_Md_about_89 : decode M_Md_about.2.1 89 = .ok (.invokevirtual 100, 3) := by decide +kernel
theorem d_Md_about_92 : decode M_Md_about.2.1 92 = .ok (.ireturn, 1) := by decide +kernel
theorem d_Md_about_93 : decode M_Md_about.2.1 93 = .ok (.aload_n 0, 1) := by decide +kernel
theorem d_Md_about_94 : decode M_Md_about.2.1 94 = .ok (.invokevirtual 377, 3) := by decide +kernel
theorem d_Md_about_97 : decode M_Md_about.2.1 97 = .ok (.ireturn, 1) := by decide +kernel
theorem d_Md_about_98 : decode M_Md_about.2.1 98 = .ok (.iload_n 1, 1) := by decide +kernel
theorem d_Md_about_99 : decode M_Md_about.2.1 99 = .ok (.bipush 10, 2) := by decide +kernel
theorem d_Md_about_101 : decode M_Md_about.2.1 101 = .ok (.bipush 19, 2) := by decide +kernel
theorem d_Md_about_103 : decode M_Md_about.2.1 103 = .ok (.invokestatic 89, 3) := by decide +kernel
theorem d_Md_about_106 : decode M_Md_about.2.1 106 = .ok (.ifCond .eq 17, 3) := by decide +kernel
theorem d_Md_about_109 : decode M_Md_about.2.1 109 = .ok (.aload_n 0, 1) := by decide +kernel
theorem d_Md_about_110 : decode M_Md_about.2.1 110 = .ok (.getfield 7, 3) := by decide +kernel
theorem d_Md_about_113 : decode M_Md_about.2.1 113 = .ok (.sipush 160, 3) := by decide +kernel
theorem d_Md_about_116 : decode M_Md_about.2.1 116 = .ok (.iload_n 1, 1) := by decide +kernel
theorem d_Md_about_117 : decode M_Md_about.2.1 117 = .ok (.iadd, 1) := by decide +kernel
theorem d_Md_about_118 : decode M_Md_about.2.1 118 = .ok (.bipush 10, 2) := by decide +kernel
theorem d_Md_about_120 : decode M_Md_about.2.1 120 = .ok (.isub, 1) := by decide +kernel
theorem d_Md_about_121 : decode M_Md_about.2.1 121 = .ok (.iaload, 1) := by decide +kernel
theorem d_Md_about_122 : decode M_Md_about.2.1 122 = .ok (.ireturn, 1) := by decide +kernel
theorem d_Md_about_123 : decode M_Md_about.2.1 123 = .ok (.sipush 170, 3) := by decide +kernel
theorem d_Md_about_126 : decode M_Md_about.2.1 126 = .ok (.iconst 3, 1) := by decide +kernel
theorem d_Md_about_127 : decode M_Md_about.2.1 127 = .ok (.iload_n 1, 1) := by decide +kernel
theorem d_Md_about_128 : decode M_Md_about.2.1 128 = .ok (.bipush 20, 2) := by decide +kernel
theorem d_Md_about_130 : decode M_Md_about.2.1 130 = .ok (.isub, 1) := by decide +kernel
theorem d_Md_about_131 : decode M_Md_about.2.1 131 = .ok (.imul, 1) := by decide +kernel
theorem d_Md_about_132 : decode M_Md_about.2.1 132 = .ok (.iadd, 1) := by decide +kernel
theorem d_Md_about_133 : decode M_Md_about.2.1 133 = .ok (.istore_n 2, 1) := by decide +kernel
theorem d_Md_about_134 : decode M_Md_about.2.1 134 = .ok (.aload_n 0, 1) := by decide +kernel
theorem d_Md_about_135 : decode M_Md_about.2.1 135 = .ok (.iload_n 1, 1) := by decide +kernel
theorem d_Md_about_136 : decode M_Md_about.2.1 136 = .ok (.bipush 20, 2) := by decide +kernel
theorem d_Md_about_138 : decode M_Md_about.2.1 138 = .ok (.isub, 1) := by decide +kernel
theorem d_Md_about_139 : decode M_Md_about.2.1 139 = .ok (.invokevirtual 333, 3) := by decide +kernel
theorem d_Md_about_142 : decode M_Md_about.2.1 142 = .ok (.ifCond .eq 36, 3) := by decide +kernel
theorem d_Md_about_145 : decode M_Md_about.2.1 145 = .ok (.bipush 100, 2) := by decide +kernel
theorem d_Md_about_147 : decode M_Md_about.2.1 147 = .ok (.aload_n 0, 1) := by decide +kernel
theorem d_Md_about_148 : decode M_Md_about.2.1 148 = .ok (.getfield 7, 3) := by decide +kernel
theorem d_Md_about_151 : decode M_Md_about.2.1 151 = .ok (.iload_n 2, 1) := by decide +kernel
theorem d_Md_about_152 : decode M_Md_about.2.1 152 = .ok (.iaload, 1) := by decide +kernel
theorem d_Md_about_153 : decode M_Md_about.2.1 153 = .ok (.imul, 1) := by decide +kernel
theorem d_Md_about_154 : decode M_Md_about.2.1 154 = .ok (.bipush 10, 2) := by decide +kernel
theorem d_Md_about_156 : decode M_Md_about.2.1 156 = .ok (.aload_n 0, 1) := by decide +kernel
theorem d_Md_about_157 : decode M_Md_about.2.1 157 = .ok (.getfield 7, 3) := by decide +kernel
theorem d_Md_about_160 : decode M_Md_about.2.1 160 = .ok (.iload_n 2, 1) := by decide +kernel
theorem d_Md_about_161 : decode M_Md_about.2.1 161 = .ok (.iconst 1, 1) := by decide +kernel
theorem d_Md_about_162 : decode M_Md_about.2.1 162 = .ok (.iadd, 1) := by decide +kernel
theorem d_Md_about_163 : decode M_Md_about.2.1 163 = .ok (.iaload, 1) := by decide +kernel
theorem d_Md_about_164 : decode M_Md_about.2.1 164 = .ok (.imul, 1) := by decide +kernel
theorem d_Md_about_165 : decode M_Md_about.2.1 165 = .ok (.iadd, 1) := by decide +kernel
theorem d_Md_about_166 : decode M_Md_about.2.1 166 = .ok (.aload_n 0, 1) := by decide +kernel
theorem d_Md_about_167 : decode M_Md_about.2.1 167 = .ok (.getfield 7, 3) := by decide +kernel
theorem d_Md_about_170 : decode M_Md_about.2.1 170 = .ok (.iload_n 2, 1) := by decide +kernel
theorem d_Md_about_171 : decode M_Md_about.2.1 171 = .ok (.iconst 2, 1) := by decide +kernel
theorem d_Md_about_172 : decode M_Md_about.2.1 172 = .ok (.iadd, 1) := by decide +kernel
theorem d_Md_about_173 : decode M_Md_about.2.1 173 = .ok (.iaload, 1) := by decide +kernel
theorem d_Md_about_174 : decode M_Md_about.2.1 174 = .ok (.iadd, 1) := by decide +kernel
theorem d_Md_about_175 : decode M_Md_about.2.1 175 = .ok (.goto 5, 3) := by decide +kernel
theorem d_Md_about_178 : decode M_Md_about.2.1 178 = .ok (.bipush (-2), 2) := by decide +kernel
theorem d_Md_about_180 : decode M_Md_about.2.1 180 = .ok (.ireturn, 1) := by decide +kernel
-- Md_isHidden
def b_Md_isHidden_157 (k30 : Int32 → Int32 → Int32 → Int32 → Int32 → Int32 → xV → Option (Int32 × xV)) (v1 : Int32) (v2 : Int32) (v3 : Int32) (v4 : Int32) (v6 : Int32) (v8 : Int32) (v11 : Int32) (V : xV) : Option (Int32 × xV) := (if xI v11 20 = true then k30 v1 v2 v3 v4 0 (v6 + 1) (x2 V 84 v11.toNatClampNeg v8) else none)
theorem tb_Md_isHidden_157 {L : xL} (k30 : Int32 → Int32 → Int32 → Int32 → Int32 → Int32 → xV → Option (Int32 × xV)) (res : Int32 × xV) (hk30 : ∀ (v1 : Int32) (v2 : Int32) (v3 : Int32) (v4 : Int32) (v5 : Int32) (v6 : Int32) (V : xV), k30 v1 v2 v3 v4 v5 v6 V = some res → X M_Md_isHidden (xRm (2) M_Md_isHidden) (xZ M_Md_isHidden (fun o h' => o = some (.int res.1) ∧ h' = (SH, res.2, L))) SH V L 0 0 30 [(0, .ref 65), (1, .int v1), (2, .int v2), (3, .int v3), (4, .int v4), (5, .int v5), (6, .int v6)] []) (v1 : Int32) (v2 : Int32) (v3 : Int32) (v4 : Int32) (v6 : Int32) (v8 : Int32) (v11 : Int32) (V : xV) (h : b_Md_isHidden_157 k30 v1 v2 v3 v4 v6 v8 v11 V = some res) : X M_Md_isHidden (xRm (2) M_Md_isHidden) (xZ M_Md_isHidden (fun o h' => o = some (.int res.1) ∧ h' = (SH, res.2, L))) SH V L 0 0 157 [(0, .ref 65), (1, .int v1), (2, .int v2), (3, .int v3), (4, .int v4), (6, .int v6), (8, .int v8), (11, .int v11)] [] := by
  unfold b_Md_isHidden_157 at h
  refine x_iconst 0 d_Md_isHidden_157 (by decide) ?_
  refine x_istore [(5, .int 0), (0, .ref 65), (1, .int v1), (2, .int v2), (3, .int v3), (4, .int v4), (6, .int v6), (8, .int v8), (11, .int v11)] d_Md_isHidden_158 (Nat.le_of_ble_eq_true rfl) rfl ?_
  refine x_aload_n 1 d_Md_isHidden_160 rfl rfl ?_
  refine x_getP (q := 84) f_Md_76 sh_65 rfl d_Md_isHidden_161 ?_
  refine x_iload 8 d_Md_isHidden_164 rfl ?_
  refine x_iload 7 d_Md_isHidden_166 rfl ?_
  obtain ⟨c17, h⟩ := xguard h
  refine x_iastore sh_84 c17 d_Md_isHidden_168 ?_
  refine x_iinc 6 1 [(6, .int (v6 + 1)), (5, .int 0), (0, .ref 65), (1, .int v1), (2, .int v2), (3, .int v3), (4, .int v4), (8, .int v8), (11, .int v11)] d_Md_isHidden_169 rfl (by decide) (Nat.le_of_ble_eq_true rfl) rfl ?_
  refine x_goto 30 d_Md_isHidden_172 (by decide) ?_
  refine x_pick [2, 3, 4, 5, 6, 1, 0] rfl ?_
  exact hk30 v1 v2 v3 v4 0 (v6 + 1) (x2 V 84 v11.toNatClampNeg v8) h
def b_Md_isHidden_153 (k30 : Int32 → Int32 → Int32 → Int32 → Int32 → Int32 → xV → Option (Int32 × xV)) (v1 : Int32) (v2 : Int32) (v3 : Int32) (v4 : Int32) (v6 : Int32) (v8 : Int32) (v11 : Int32) (V : xV) : Option (Int32 × xV) := (if xI v11 20 = true then k30 v1 v2 v3 v4 1 (v6 + 1) (x2 V 84 v11.toNatClampNeg v8) else none)
theorem tb_Md_isHidden_153 {L : xL} (k30 : Int32 → Int32 → Int32 → Int32 → Int32 → Int32 → xV → Option (Int32 × xV)) (res : Int32 × xV) (hk30 : ∀ (v1 : Int32) (v2 : Int32) (v3 : Int32) (v4 : Int32) (v5 : Int32) (v6 : Int32) (V : xV), k30 v1 v2 v3 v4 v5 v6 V = some res → X M_Md_isHidden (xRm (2) M_Md_isHidden) (xZ M_Md_isHidden (fun o h' => o = some (.int res.1) ∧ h' = (SH, res.2, L))) SH V L 0 0 30 [(0, .ref 65), (1, .int v1), (2, .int v2), (3, .int v3), (4, .int v4), (5, .int v5), (6, .int v6)] []) (v1 : Int32) (v2 : Int32) (v3 : Int32) (v4 : Int32) (v6 : Int32) (v8 : Int32) (v11 : Int32) (V : xV) (h : b_Md_isHidden_153 k30 v1 v2 v3 v4 v6 v8 v11 V = some res) : X M_Md_isHidden (xRm (2) M_Md_isHidden) (xZ M_Md_isHidden (fun o h' => o = some (.int res.1) ∧ h' = (SH, res.2, L))) SH V L 0 0 153 [(0, .ref 65), (1, .int v1), (2, .int v2), (3, .int v3), (4, .int v4), (6, .int v6), (8, .int v8), (11, .int v11)] [] := by
  unfold b_Md_isHidden_153 at h
  refine x_iconst 1 d_Md_isHidden_153 (by decide) ?_
  refine x_goto 158 d_Md_isHidden_154 (by decide) ?_
  refine x_istore [(5, .int 1), (0, .ref 65), (1, .int v1), (2, .int v2), (3, .int v3), (4, .int v4), (6, .int v6), (8, .int v8), (11, .int v11)] d_Md_isHidden_158 (Nat.le_of_ble_eq_true rfl) rfl ?_
  refine x_aload_n 1 d_Md_isHidden_160 rfl rfl ?_
  refine x_getP (q := 84) f_Md_76 sh_65 rfl d_Md_isHidden_161 ?_
  refine x_iload 8 d_Md_isHidden_164 rfl ?_
  refine x_iload 7 d_Md_isHidden_166 rfl ?_
  obtain ⟨c16, h⟩ := xguard h
  refine x_iastore sh_84 c16 d_Md_isHidden_168 ?_
  refine x_iinc 6 1 [(6, .int (v6 + 1)), (5, .int 1), (0, .ref 65), (1, .int v1), (2, .int v2), (3, .int v3), (4, .int v4), (8, .int v8), (11, .int v11)] d_Md_isHidden_169 rfl (by decide) (Nat.le_of_ble_eq_true rfl) rfl ?_
  refine x_goto 30 d_Md_isHidden_172 (by decide) ?_
  refine x_pick [2, 3, 4, 5, 6, 1, 0] rfl ?_
  exact hk30 v1 v2 v3 v4 1 (v6 + 1) (x2 V 84 v11.toNatClampNeg v8) h
def b_Md_isHidden_113 (k30 : Int32 → Int32 → Int32 → Int32 → Int32 → Int32 → xV → Option (Int32 × xV)) (v1 : Int32) (v2 : Int32) (v3 : Int32) (v4 : Int32) (v5 : Int32) (v6 : Int32) (v8 : Int32) (v9 : Int32) (s0 : Int32) (V : xV) : Option (Int32 × xV) := (if v5 = 0 then b_Md_isHidden_157 k30 v1 v2 v3 v4 v6 v8 ((10 * v9) + s0) V else (if xI ((10 * v9) + s0) 20 = true then (if (V 84 ((10 * v9) + s0).toNatClampNeg) = (-1) then b_Md_isHidden_153 k30 v1 v2 v3 v4 v6 v8 ((10 * v9) + s0) V else (if xI ((10 * v9) + s0) 20 = true then (if ¬ (V 84 ((10 * v9) + s0).toNatClampNeg) = v8 then b_Md_isHidden_157 k30 v1 v2 v3 v4 v6 v8 ((10 * v9) + s0) V else b_Md_isHidden_153 k30 v1 v2 v3 v4 v6 v8 ((10 * v9) + s0) V) else none)) else none))
theorem tb_Md_isHidden_113 {L : xL} (k30 : Int32 → Int32 → Int32 → Int32 → Int32 → Int32 → xV → Option (Int32 × xV)) (res : Int32 × xV) (hk30 : ∀ (v1 : Int32) (v2 : Int32) (v3 : Int32) (v4 : Int32) (v5 : Int32) (v6 : Int32) (V : xV), k30 v1 v2 v3 v4 v5 v6 V = some res → X M_Md_isHidden (xRm (2) M_Md_isHidden) (xZ M_Md_isHidden (fun o h' => o = some (.int res.1) ∧ h' = (SH, res.2, L))) SH V L 0 0 30 [(0, .ref 65), (1, .int v1), (2, .int v2), (3, .int v3), (4, .int v4), (5, .int v5), (6, .int v6)] []) (v1 : Int32) (v2 : Int32) (v3 : Int32) (v4 : Int32) (v5 : Int32) (v6 : Int32) (v8 : Int32) (v9 : Int32) (s0 : Int32) (V : xV) (h : b_Md_isHidden_113 k30 v1 v2 v3 v4 v5 v6 v8 v9 s0 V = some res) : X M_Md_isHidden (xRm (2) M_Md_isHidden) (xZ M_Md_isHidden (fun o h' => o = some (.int res.1) ∧ h' = (SH, res.2, L))) SH V L 0 0 113 [(0, .ref 65), (1, .int v1), (2, .int v2), (3, .int v3), (4, .int v4), (5, .int v5), (6, .int v6), (8, .int v8), (9, .int v9)] [.int s0] := by
  unfold b_Md_isHidden_113 at h
  refine x_istore [(10, .int s0), (0, .ref 65), (1, .int v1), (2, .int v2), (3, .int v3), (4, .int v4), (5, .int v5), (6, .int v6), (8, .int v8), (9, .int v9)] d_Md_isHidden_113 (Nat.le_of_ble_eq_true rfl) rfl ?_
  refine x_bipush 10 d_Md_isHidden_115 (by decide) ?_
  refine x_iload 9 d_Md_isHidden_117 rfl ?_
  refine x_imul d_Md_isHidden_119 ?_
  refine x_iload 0 d_Md_isHidden_120 rfl ?_
  refine x_iadd d_Md_isHidden_122 ?_
  refine x_istore [(11, .int ((10 * v9) + s0)), (10, .int s0), (0, .ref 65), (1, .int v1), (2, .int v2), (3, .int v3), (4, .int v4), (5, .int v5), (6, .int v6), (8, .int v8), (9, .int v9)] d_Md_isHidden_123 (Nat.le_of_ble_eq_true rfl) rfl ?_
  refine x_iload 7 d_Md_isHidden_125 rfl ?_
  refine x_if_eq 157 d_Md_isHidden_127 (by decide) (fun c11 => ?_) (fun c11 => ?_)
  · replace h := xpos c11 h
    refine x_pick [2, 3, 4, 5, 6, 8, 9, 0] rfl ?_
    exact tb_Md_isHidden_157 (L := L) k30 res hk30 v1 v2 v3 v4 v6 v8 ((10 * v9) + s0) V h
  · replace h := xneg c11 h
    refine x_aload_n 2 d_Md_isHidden_130 rfl rfl ?_
    refine x_getP (q := 84) f_Md_76 sh_65 rfl d_Md_isHidden_131 ?_
    refine x_iload 0 d_Md_isHidden_134 rfl ?_
    obtain ⟨c12, h⟩ := xguard h
    refine x_iaload sh_84 c12 d_Md_isHidden_136 ?_
    refine x_iconst (-1) d_Md_isHidden_137 (by decide) ?_
    refine x_icmp_eq 153 d_Md_isHidden_138 (by decide) (fun c13 => ?_) (fun c13 => ?_)
    · replace h := xpos c13 h
      refine x_pick [2, 3, 4, 5, 6, 8, 9, 0] rfl ?_
      exact tb_Md_isHidden_153 (L := L) k30 res hk30 v1 v2 v3 v4 v6 v8 ((10 * v9) + s0) V h
    · replace h := xneg c13 h
      refine x_aload_n 2 d_Md_isHidden_141 rfl rfl ?_
      refine x_getP (q := 84) f_Md_76 sh_65 rfl d_Md_isHidden_142 ?_
      refine x_iload 0 d_Md_isHidden_145 rfl ?_
      obtain ⟨c14, h⟩ := xguard h
      refine x_iaload sh_84 c14 d_Md_isHidden_147 ?_
      refine x_iload 9 d_Md_isHidden_148 rfl ?_
      refine x_icmp_ne 157 d_Md_isHidden_150 (by decide) (fun c15 => ?_) (fun c15 => ?_)
      · replace h := xpos c15 h
        refine x_pick [2, 3, 4, 5, 6, 8, 9, 0] rfl ?_
        exact tb_Md_isHidden_157 (L := L) k30 res hk30 v1 v2 v3 v4 v6 v8 ((10 * v9) + s0) V h
      · replace h := xneg c15 h
        refine x_pick [2, 3, 4, 5, 6, 8, 9, 0] rfl ?_
        exact tb_Md_isHidden_153 (L := L) k30 res hk30 v1 v2 v3 v4 v6 v8 ((10 * v9) + s0) V h
def b_Md_isHidden_90 (k30 : Int32 → Int32 → Int32 → Int32 → Int32 → Int32 → xV → Option (Int32 × xV)) (v1 : Int32) (v2 : Int32) (v3 : Int32) (v4 : Int32) (v5 : Int32) (v6 : Int32) (v7 : Int32) (v8 : Int32) (s0 : Int32) (V : xV) : Option (Int32 × xV) := (if ¬ v7 = 0 then (if xI ((10 + v7) - 1) 270 = true then b_Md_isHidden_113 k30 v1 v2 v3 v4 v5 v6 v8 s0 (V 66 ((10 + v7) - 1).toNatClampNeg) V else none) else b_Md_isHidden_113 k30 v1 v2 v3 v4 v5 v6 v8 s0 0 V)
theorem tb_Md_isHidden_90 {L : xL} (k30 : Int32 → Int32 → Int32 → Int32 → Int32 → Int32 → xV → Option (Int32 × xV)) (res : Int32 × xV) (hk30 : ∀ (v1 : Int32) (v2 : Int32) (v3 : Int32) (v4 : Int32) (v5 : Int32) (v6 : Int32) (V : xV), k30 v1 v2 v3 v4 v5 v6 V = some res → X M_Md_isHidden (xRm (2) M_Md_isHidden) (xZ M_Md_isHidden (fun o h' => o = some (.int res.1) ∧ h' = (SH, res.2, L))) SH V L 0 0 30 [(0, .ref 65), (1, .int v1), (2, .int v2), (3, .int v3), (4, .int v4), (5, .int v5), (6, .int v6)] []) (v1 : Int32) (v2 : Int32) (v3 : Int32) (v4 : Int32) (v5 : Int32) (v6 : Int32) (v7 : Int32) (v8 : Int32) (s0 : Int32) (V : xV) (h : b_Md_isHidden_90 k30 v1 v2 v3 v4 v5 v6 v7 v8 s0 V = some res) : X M_Md_isHidden (xRm (2) M_Md_isHidden) (xZ M_Md_isHidden (fun o h' => o = some (.int res.1) ∧ h' = (SH, res.2, L))) SH V L 0 0 90 [(0, .ref 65), (1, .int v1), (2, .int v2), (3, .int v3), (4, .int v4), (5, .int v5), (6, .int v6), (7, .int v7), (8, .int v8)] [.int s0] := by
  unfold b_Md_isHidden_90 at h
  refine x_istore [(9, .int s0), (0, .ref 65), (1, .int v1), (2, .int v2), (3, .int v3), (4, .int v4), (5, .int v5), (6, .int v6), (7, .int v7), (8, .int v8)] d_Md_isHidden_90 (Nat.le_of_ble_eq_true rfl) rfl ?_
  refine x_iload 8 d_Md_isHidden_92 rfl ?_
  refine x_if_ne 101 d_Md_isHidden_94 (by decide) (fun c9 => ?_) (fun c9 => ?_)
  · replace h := xpos c9 h
    refine x_aload_n 1 d_Md_isHidden_101 rfl rfl ?_
    refine x_getP (q := 66) f_Md_7 sh_65 rfl d_Md_isHidden_102 ?_
    refine x_bipush 10 d_Md_isHidden_105 (by decide) ?_
    refine x_iload 8 d_Md_isHidden_107 rfl ?_
    refine x_iadd d_Md_isHidden_109 ?_
    refine x_iconst 1 d_Md_isHidden_110 (by decide) ?_
    refine x_isub d_Md_isHidden_111 ?_
    obtain ⟨c10, h⟩ := xguard h
    refine x_iaload sh_66 c10 d_Md_isHidden_112 ?_
    refine x_pick [1, 2, 3, 4, 5, 6, 7, 9, 0] rfl ?_
    exact tb_Md_isHidden_113 (L := L) k30 res hk30 v1 v2 v3 v4 v5 v6 v8 s0 (V 66 ((10 + v7) - 1).toNatClampNeg) V h
  · replace h := xneg c9 h
    refine x_iconst 0 d_Md_isHidden_97 (by decide) ?_
    refine x_goto 113 d_Md_isHidden_98 (by decide) ?_
    refine x_pick [1, 2, 3, 4, 5, 6, 7, 9, 0] rfl ?_
    exact tb_Md_isHidden_113 (L := L) k30 res hk30 v1 v2 v3 v4 v5 v6 v8 s0 0 V h
def b_Md_isHidden_30 (k30 : Int32 → Int32 → Int32 → Int32 → Int32 → Int32 → xV → Option (Int32 × xV)) (v1 : Int32) (v2 : Int32) (v3 : Int32) (v4 : Int32) (v5 : Int32) (v6 : Int32) (V : xV) : Option (Int32 × xV) := (if v3 ≤ v6 then (if v5 = 0 ∨ v5 = 1 then some (v5, V) else none) else (if v6 ≤ 0 then (if ¬ (v2 + v6) = 0 then (Option.bind (f_Md_decreeOf ((v2 + v6) - 1) v1 V) fun p7 => b_Md_isHidden_90 k30 v1 v2 v3 v4 v5 v6 (v2 + v6) ((v4 >>> ((v3 - 1) - v6 &&& 31)) &&& 1) p7 V) else b_Md_isHidden_90 k30 v1 v2 v3 v4 v5 v6 (v2 + v6) ((v4 >>> ((v3 - 1) - v6 &&& 31)) &&& 1) 0 V) else b_Md_isHidden_90 k30 v1 v2 v3 v4 v5 v6 (v2 + v6) ((v4 >>> ((v3 - 1) - v6 &&& 31)) &&& 1) ((v4 >>> (v3 - v6 &&& 31)) &&& 1) V))
theorem tb_Md_isHidden_30 {L : xL} (k30 : Int32 → Int32 → Int32 → Int32 → Int32 → Int32 → xV → Option (Int32 × xV)) (res : Int32 × xV) (hk30 : ∀ (v1 : Int32) (v2 : Int32) (v3 : Int32) (v4 : Int32) (v5 : Int32) (v6 : Int32) (V : xV), k30 v1 v2 v3 v4 v5 v6 V = some res → X M_Md_isHidden (xRm (2) M_Md_isHidden) (xZ M_Md_isHidden (fun o h' => o = some (.int res.1) ∧ h' = (SH, res.2, L))) SH V L 0 0 30 [(0, .ref 65), (1, .int v1), (2, .int v2), (3, .int v3), (4, .int v4), (5, .int v5), (6, .int v6)] []) (v1 : Int32) (v2 : Int32) (v3 : Int32) (v4 : Int32) (v5 : Int32) (v6 : Int32) (V : xV) (h : b_Md_isHidden_30 k30 v1 v2 v3 v4 v5 v6 V = some res) : X M_Md_isHidden (xRm (2) M_Md_isHidden) (xZ M_Md_isHidden (fun o h' => o = some (.int res.1) ∧ h' = (SH, res.2, L))) SH V L 0 0 30 [(0, .ref 65), (1, .int v1), (2, .int v2), (3, .int v3), (4, .int v4), (5, .int v5), (6, .int v6)] [] := by
  unfold b_Md_isHidden_30 at h
  refine x_iload 6 d_Md_isHidden_30 rfl ?_
  refine x_iload_n 3 d_Md_isHidden_32 rfl rfl ?_
  refine x_icmp_ge 175 d_Md_isHidden_33 (by decide) (fun c3 => ?_) (fun c3 => ?_)
  · replace h := xpos c3 h
    refine x_iload 5 d_Md_isHidden_175 rfl ?_
    obtain ⟨c4, h⟩ := xguard h
    obtain rfl := Option.some.inj h
    exact x_zreturn rfl (xnz c4) d_Md_isHidden_177 (Nat.le_refl _) (Nat.le_refl _) ⟨rfl, rfl⟩
  · replace h := xneg c3 h
    refine x_iload_n 2 d_Md_isHidden_36 rfl rfl ?_
    refine x_iload 6 d_Md_isHidden_37 rfl ?_
    refine x_iadd d_Md_isHidden_39 ?_
    refine x_istore [(7, .int (v2 + v6)), (0, .ref 65), (1, .int v1), (2, .int v2), (3, .int v3), (4, .int v4), (5, .int v5), (6, .int v6)] d_Md_isHidden_40 (Nat.le_of_ble_eq_true rfl) rfl ?_
    refine x_iload 5 d_Md_isHidden_42 rfl ?_
    refine x_iload_n 4 d_Md_isHidden_44 rfl rfl ?_
    refine x_iconst 1 d_Md_isHidden_45 (by decide) ?_
    refine x_isub d_Md_isHidden_46 ?_
    refine x_iload 7 d_Md_isHidden_47 rfl ?_
    refine x_isub d_Md_isHidden_49 ?_
    refine x_ishr d_Md_isHidden_50 ?_
    refine x_iconst 1 d_Md_isHidden_51 (by decide) ?_
    refine x_iand d_Md_isHidden_52 ?_
    refine x_istore [(8, .int ((v4 >>> ((v3 - 1) - v6 &&& 31)) &&& 1)), (7, .int (v2 + v6)), (0, .ref 65), (1, .int v1), (2, .int v2), (3, .int v3), (4, .int v4), (5, .int v5), (6, .int v6)] d_Md_isHidden_53 (Nat.le_of_ble_eq_true rfl) rfl ?_
    refine x_iload 8 d_Md_isHidden_55 rfl ?_
    refine x_if_le 72 d_Md_isHidden_57 (by decide) (fun c5 => ?_) (fun c5 => ?_)
    · replace h := xpos c5 h
      refine x_iload 1 d_Md_isHidden_72 rfl ?_
      refine x_if_ne 81 d_Md_isHidden_74 (by decide) (fun c6 => ?_) (fun c6 => ?_)
      · replace h := xpos c6 h
        refine x_aload_n 2 d_Md_isHidden_81 rfl rfl ?_
        refine x_iload 1 d_Md_isHidden_82 rfl ?_
        refine x_iconst 1 d_Md_isHidden_84 (by decide) ?_
        refine x_isub d_Md_isHidden_85 ?_
        refine x_iload_n 3 d_Md_isHidden_86 rfl rfl ?_
        obtain ⟨p7, e8, h⟩ := xbind h
        refine x_callV0 e_Md_291 sh_65 rfl (t_Md_decreeOf ((v2 + v6) - 1) v1 V L _ e8) rfl rfl rfl (Nat.le_of_ble_eq_true rfl) (xfit_of (by omega) (Nat.le_of_ble_eq_true rfl)) (Nat.zero_le _) (Nat.zero_le _) d_Md_isHidden_87 ?_
        refine x_pick [2, 3, 4, 5, 6, 7, 8, 1, 0] rfl ?_
        exact tb_Md_isHidden_90 (L := L) k30 res hk30 v1 v2 v3 v4 v5 v6 (v2 + v6) ((v4 >>> ((v3 - 1) - v6 &&& 31)) &&& 1) p7 V h
      · replace h := xneg c6 h
        refine x_iconst 0 d_Md_isHidden_77 (by decide) ?_
        refine x_goto 90 d_Md_isHidden_78 (by decide) ?_
        refine x_pick [2, 3, 4, 5, 6, 7, 8, 1, 0] rfl ?_
        exact tb_Md_isHidden_90 (L := L) k30 res hk30 v1 v2 v3 v4 v5 v6 (v2 + v6) ((v4 >>> ((v3 - 1) - v6 &&& 31)) &&& 1) 0 V h
    · replace h := xneg c5 h
      refine x_iload 6 d_Md_isHidden_60 rfl ?_
      refine x_iload_n 5 d_Md_isHidden_62 rfl rfl ?_
      refine x_iload 8 d_Md_isHidden_63 rfl ?_
      refine x_isub d_Md_isHidden_65 ?_
      refine x_ishr d_Md_isHidden_66 ?_
      refine x_iconst 1 d_Md_isHidden_67 (by decide) ?_
      refine x_iand d_Md_isHidden_68 ?_
      refine x_goto 90 d_Md_isHidden_69 (by decide) ?_
      refine x_pick [2, 3, 4, 5, 6, 7, 8, 1, 0] rfl ?_
      exact tb_Md_isHidden_90 (L := L) k30 res hk30 v1 v2 v3 v4 v5 v6 (v2 + v6) ((v4 >>> ((v3 - 1) - v6 &&& 31)) &&& 1) ((v4 >>> (v3 - v6 &&& 31)) &&& 1) V h
def g_Md_isHidden_30  : Nat → Int32 → Int32 → Int32 → Int32 → Int32 → Int32 → xV → Option (Int32 × xV)
  | 0, _, _, _, _, _, _, _ => none
  | n + 1, v1, v2, v3, v4, v5, v6, V => b_Md_isHidden_30 (g_Md_isHidden_30  n) v1 v2 v3 v4 v5 v6 V
theorem tg_Md_isHidden_30 {L : xL} (res : Int32 × xV)  : ∀ (n : Nat) (v1 : Int32) (v2 : Int32) (v3 : Int32) (v4 : Int32) (v5 : Int32) (v6 : Int32) (V : xV), g_Md_isHidden_30  n v1 v2 v3 v4 v5 v6 V = some res → X M_Md_isHidden (xRm (2) M_Md_isHidden) (xZ M_Md_isHidden (fun o h' => o = some (.int res.1) ∧ h' = (SH, res.2, L))) SH V L 0 0 30 [(0, .ref 65), (1, .int v1), (2, .int v2), (3, .int v3), (4, .int v4), (5, .int v5), (6, .int v6)] []
  | 0, _, _, _, _, _, _, _, h => by cases h
  | n + 1, v1, v2, v3, v4, v5, v6, V, h => tb_Md_isHidden_30 (L := L) (g_Md_isHidden_30  n) res (tg_Md_isHidden_30 (L := L) res n) v1 v2 v3 v4 v5 v6 V h
def b_Md_isHidden_3 (k3 : Int32 → Int32 → Int32 → Int32 → Int32 → xV → Option (Int32 × xV)) (v1 : Int32) (v2 : Int32) (v3 : Int32) (v4 : Int32) (v5 : Int32) (V : xV) : Option (Int32 × xV) := (if 20 ≤ v5 then g_Md_isHidden_30 2000 v1 v2 v3 v4 1 0 V else (if xI v5 20 = true then k3 v1 v2 v3 v4 (v5 + 1) (x2 V 84 v5.toNatClampNeg (-1)) else none))
theorem tb_Md_isHidden_3 {L : xL} (k3 : Int32 → Int32 → Int32 → Int32 → Int32 → xV → Option (Int32 × xV)) (res : Int32 × xV) (hk3 : ∀ (v1 : Int32) (v2 : Int32) (v3 : Int32) (v4 : Int32) (v5 : Int32) (V : xV), k3 v1 v2 v3 v4 v5 V = some res → X M_Md_isHidden (xRm (2) M_Md_isHidden) (xZ M_Md_isHidden (fun o h' => o = some (.int res.1) ∧ h' = (SH, res.2, L))) SH V L 0 0 3 [(0, .ref 65), (1, .int v1), (2, .int v2), (3, .int v3), (4, .int v4), (5, .int v5)] []) (v1 : Int32) (v2 : Int32) (v3 : Int32) (v4 : Int32) (v5 : Int32) (V : xV) (h : b_Md_isHidden_3 k3 v1 v2 v3 v4 v5 V = some res) : X M_Md_isHidden (xRm (2) M_Md_isHidden) (xZ M_Md_isHidden (fun o h' => o = some (.int res.1) ∧ h' = (SH, res.2, L))) SH V L 0 0 3 [(0, .ref 65), (1, .int v1), (2, .int v2), (3, .int v3), (4, .int v4), (5, .int v5)] [] := by
  unfold b_Md_isHidden_3 at h
  refine x_iload 5 d_Md_isHidden_3 rfl ?_
  refine x_bipush 20 d_Md_isHidden_5 (by decide) ?_
  refine x_icmp_ge 24 d_Md_isHidden_7 (by decide) (fun c1 => ?_) (fun c1 => ?_)
  · replace h := xpos c1 h
    refine x_iconst 1 d_Md_isHidden_24 (by decide) ?_
    refine x_istore [(5, .int 1), (0, .ref 65), (1, .int v1), (2, .int v2), (3, .int v3), (4, .int v4)] d_Md_isHidden_25 (Nat.le_of_ble_eq_true rfl) rfl ?_
    refine x_iconst 0 d_Md_isHidden_27 (by decide) ?_
    refine x_istore [(6, .int 0), (5, .int 1), (0, .ref 65), (1, .int v1), (2, .int v2), (3, .int v3), (4, .int v4)] d_Md_isHidden_28 (Nat.le_of_ble_eq_true rfl) rfl ?_
    refine x_pick [2, 3, 4, 5, 6, 1, 0] rfl ?_
    exact tg_Md_isHidden_30 (L := L) res _ v1 v2 v3 v4 1 0 V h
  · replace h := xneg c1 h
    refine x_aload_n 0 d_Md_isHidden_10 rfl rfl ?_
    refine x_getP (q := 84) f_Md_76 sh_65 rfl d_Md_isHidden_11 ?_
    refine x_iload 5 d_Md_isHidden_14 rfl ?_
    refine x_iconst (-1) d_Md_isHidden_16 (by decide) ?_
    obtain ⟨c2, h⟩ := xguard h
    refine x_iastore sh_84 c2 d_Md_isHidden_17 ?_
    refine x_iinc 5 1 [(5, .int (v5 + 1)), (0, .ref 65), (1, .int v1), (2, .int v2), (3, .int v3), (4, .int v4)] d_Md_isHidden_18 rfl (by decide) (Nat.le_of_ble_eq_true rfl) rfl ?_
    refine x_goto 3 d_Md_isHidden_21 (by decide) ?_
    refine x_pick [1, 2, 3, 4, 5, 0] rfl ?_
    exact hk3 v1 v2 v3 v4 (v5 + 1) (x2 V 84 v5.toNatClampNeg (-1)) h
def g_Md_isHidden_3  : Nat → Int32 → Int32 → Int32 → Int32 → Int32 → xV → Option (Int32 × xV)
  | 0, _, _, _, _, _, _ => none
  | n + 1, v1, v2, v3, v4, v5, V => b_Md_isHidden_3 (g_Md_isHidden_3  n) v1 v2 v3 v4 v5 V
theorem tg_Md_isHidden_3 {L : xL} (res : Int32 × xV)  : ∀ (n : Nat) (v1 : Int32) (v2 : Int32) (v3 : Int32) (v4 : Int32) (v5 : Int32) (V : xV), g_Md_isHidden_3  n v1 v2 v3 v4 v5 V = some res → X M_Md_isHidden (xRm (2) M_Md_isHidden) (xZ M_Md_isHidden (fun o h' => o = some (.int res.1) ∧ h' = (SH, res.2, L))) SH V L 0 0 3 [(0, .ref 65), (1, .int v1), (2, .int v2), (3, .int v3), (4, .int v4), (5, .int v5)] []
  | 0, _, _, _, _, _, _, h => by cases h
  | n + 1, v1, v2, v3, v4, v5, V, h => tb_Md_isHidden_3 (L := L) (g_Md_isHidden_3  n) res (tg_Md_isHidden_3 (L := L) res n) v1 v2 v3 v4 v5 V h
def f_Md_isHidden (a1 : Int32) (a2 : Int32) (a3 : Int32) (a4 : Int32) (V : xV) : Option (Int32 × xV) := g_Md_isHidden_3 2000 a1 a2 a3 a4 0 V
theorem t_Md_isHidden (a1 : Int32) (a2 : Int32) (a3 : Int32) (a4 : Int32) (V : xV) (L : xL) (res : Int32 × xV) (h : f_Md_isHidden a1 a2 a3 a4 V = some res) : xRuns (2) M_Md_isHidden [.ref 65, .int a1, .int a2, .int a3, .int a4] (SH, V, L) (fun o h' => o = some (.int res.1) ∧ h' = (SH, res.2, L)) := by
  refine xRuns_of (by decide) (Nat.le_of_ble_eq_true rfl) ?_
  unfold f_Md_isHidden at h
  show X M_Md_isHidden (xRm (2) M_Md_isHidden) (xZ M_Md_isHidden (fun o h' => o = some (.int res.1) ∧ h' = (SH, res.2, L))) SH V L 0 0 0 [(0, .ref 65), (1, .int a1), (2, .int a2), (3, .int a3), (4, .int a4)] []
  refine x_iconst 0 d_Md_isHidden_0 (by decide) ?_
  refine x_istore [(5, .int 0), (0, .ref 65), (1, .int a1), (2, .int a2), (3, .int a3), (4, .int a4)] d_Md_isHidden_1 (Nat.le_of_ble_eq_true rfl) rfl ?_
  refine x_pick [1, 2, 3, 4, 5, 0] rfl ?_
  exact tg_Md_isHidden_3 (L := L) res _ a1 a2 a3 a4 0 V h
-- Md_plan
def b_Md_plan_110 (k96 : Int32 → Int32 → Int32 → Int32 → Int32 → Int32 → Int32 → xV → xL → Option (Int32 × xV × xL)) (k110 : Int32 → Int32 → Int32 → Int32 → Int32 → Int32 → Int32 → Int32 → Int32 → xV → xL → Option (Int32 × xV × xL)) (v1 : Int32) (v2 : Int32) (v3 : Int32) (v4 : Int32) (v5 : Int32) (v6 : Int32) (v7 : Int32) (v8 : Int32) (v9 : Int32) (V : xV) (L : xL) : Option (Int32 × xV × xL) := (if v3 ≤ v9 then (Option.bind (f_Md_isHidden v1 v2 v3 v7 V) fun p17 => (if p17.1 = 0 then k96 v1 v2 v3 v4 v5 v6 (v7 + 1) p17.2 L else (if v5 = (-1) then k96 v1 v2 v3 v4 v7 v8 (v7 + 1) p17.2 L else (if v8 ≤ v6 then k96 v1 v2 v3 v4 v5 v6 (v7 + 1) p17.2 L else k96 v1 v2 v3 v4 v7 v8 (v7 + 1) p17.2 L)))) else (if xI ((2 * v9) + ((v7 >>> ((v3 - 1) - v9 &&& 31)) &&& 1)) 20 = true then k110 v1 v2 v3 v4 v5 v6 v7 (v8 + (V 85 ((2 * v9) + ((v7 >>> ((v3 - 1) - v9 &&& 31)) &&& 1)).toNatClampNeg)) (v9 + 1) V L else none))
theorem tb_Md_plan_110 (k96 : Int32 → Int32 → Int32 → Int32 → Int32 → Int32 → Int32 → xV → xL → Option (Int32 × xV × xL)) (k110 : Int32 → Int32 → Int32 → Int32 → Int32 → Int32 → Int32 → Int32 → Int32 → xV → xL → Option (Int32 × xV × xL)) (res : Int32 × xV × xL) (hk96 : ∀ (v1 : Int32) (v2 : Int32) (v3 : Int32) (v4 : Int32) (v5 : Int32) (v6 : Int32) (v7 : Int32) (V : xV) (L : xL), k96 v1 v2 v3 v4 v5 v6 v7 V L = some res → X M_Md_plan (xRm (11) M_Md_plan) (xZ M_Md_plan (fun o h' => o = some (.int res.1) ∧ h' = (SH, res.2.1, res.2.2))) SH V L 0 0 96 [(0, .ref 65), (1, .int v1), (2, .int v2), (3, .int v3), (4, .int v4), (5, .int v5), (6, .int v6), (7, .int v7)] []) (hk110 : ∀ (v1 : Int32) (v2 : Int32) (v3 : Int32) (v4 : Int32) (v5 : Int32) (v6 : Int32) (v7 : Int32) (v8 : Int32) (v9 : Int32) (V : xV) (L : xL), k110 v1 v2 v3 v4 v5 v6 v7 v8 v9 V L = some res → X M_Md_plan (xRm (11) M_Md_plan) (xZ M_Md_plan (fun o h' => o = some (.int res.1) ∧ h' = (SH, res.2.1, res.2.2))) SH V L 0 0 110 [(0, .ref 65), (1, .int v1), (2, .int v2), (3, .int v3), (4, .int v4), (5, .int v5), (6, .int v6), (7, .int v7), (8, .int v8), (9, .int v9)] []) (v1 : Int32) (v2 : Int32) (v3 : Int32) (v4 : Int32) (v5 : Int32) (v6 : Int32) (v7 : Int32) (v8 : Int32) (v9 : Int32) (V : xV) (L : xL) (h : b_Md_plan_110 k96 k110 v1 v2 v3 v4 v5 v6 v7 v8 v9 V L = some res) : X M_Md_plan (xRm (11) M_Md_plan) (xZ M_Md_plan (fun o h' => o = some (.int res.1) ∧ h' = (SH, res.2.1, res.2.2))) SH V L 0 0 110 [(0, .ref 65), (1, .int v1), (2, .int v2), (3, .int v3), (4, .int v4), (5, .int v5), (6, .int v6), (7, .int v7), (8, .int v8), (9, .int v9)] [] := by
  unfold b_Md_plan_110 at h
  refine x_iload 9 d_Md_plan_110 rfl ?_
  refine x_iload_n 3 d_Md_plan_112 rfl rfl ?_
  refine x_icmp_ge 148 d_Md_plan_113 (by decide) (fun c16 => ?_) (fun c16 => ?_)
  · replace h := xpos c16 h
    refine x_aload_n 0 d_Md_plan_148 rfl rfl ?_
    refine x_iload_n 1 d_Md_plan_149 rfl rfl ?_
    refine x_iload_n 2 d_Md_plan_150 rfl rfl ?_
    refine x_iload_n 3 d_Md_plan_151 rfl rfl ?_
    refine x_iload 7 d_Md_plan_152 rfl ?_
    obtain ⟨p17, e18, h⟩ := xbind h
    refine x_callV0 e_Md_356 sh_65 rfl (t_Md_isHidden v1 v2 v3 v7 V L _ e18) rfl rfl rfl (Nat.le_of_ble_eq_true rfl) (xfit_of (by omega) (Nat.le_of_ble_eq_true rfl)) (Nat.zero_le _) (Nat.zero_le _) d_Md_plan_154 ?_
    refine x_if_eq 181 d_Md_plan_157 (by decide) (fun c19 => ?_) (fun c19 => ?_)
    · replace h := xpos c19 h
      refine x_iinc 7 1 [(7, .int (v7 + 1)), (0, .ref 65), (1, .int v1), (2, .int v2), (3, .int v3), (4, .int v4), (5, .int v5), (6, .int v6), (8, .int v8), (9, .int v9)] d_Md_plan_181 rfl (by decide) (Nat.le_of_ble_eq_true rfl) rfl ?_
      refine x_goto 96 d_Md_plan_184 (by decide) ?_
      refine x_pick [1, 2, 3, 4, 5, 6, 7, 0] rfl ?_
      exact hk96 v1 v2 v3 v4 v5 v6 (v7 + 1) p17.2 L h
    · replace h := xneg c19 h
      refine x_iload 5 d_Md_plan_160 rfl ?_
      refine x_iconst (-1) d_Md_plan_162 (by decide) ?_
      refine x_icmp_eq 173 d_Md_plan_163 (by decide) (fun c20 => ?_) (fun c20 => ?_)
      · replace h := xpos c20 h
        refine x_iload 7 d_Md_plan_173 rfl ?_
        refine x_istore [(5, .int v7), (0, .ref 65), (1, .int v1), (2, .int v2), (3, .int v3), (4, .int v4), (6, .int v6), (7, .int v7), (8, .int v8), (9, .int v9)] d_Md_plan_175 (Nat.le_of_ble_eq_true rfl) rfl ?_
        refine x_iload 8 d_Md_plan_177 rfl ?_
        refine x_istore [(6, .int v8), (5, .int v7), (0, .ref 65), (1, .int v1), (2, .int v2), (3, .int v3), (4, .int v4), (7, .int v7), (8, .int v8), (9, .int v9)] d_Md_plan_179 (Nat.le_of_ble_eq_true rfl) rfl ?_
        refine x_iinc 7 1 [(7, .int (v7 + 1)), (6, .int v8), (5, .int v7), (0, .ref 65), (1, .int v1), (2, .int v2), (3, .int v3), (4, .int v4), (8, .int v8), (9, .int v9)] d_Md_plan_181 rfl (by decide) (Nat.le_of_ble_eq_true rfl) rfl ?_
        refine x_goto 96 d_Md_plan_184 (by decide) ?_
        refine x_pick [3, 4, 5, 6, 7, 2, 1, 0] rfl ?_
        exact hk96 v1 v2 v3 v4 v7 v8 (v7 + 1) p17.2 L h
      · replace h := xneg c20 h
        refine x_iload 8 d_Md_plan_166 rfl ?_
        refine x_iload 6 d_Md_plan_168 rfl ?_
        refine x_icmp_le 181 d_Md_plan_170 (by decide) (fun c21 => ?_) (fun c21 => ?_)
        · replace h := xpos c21 h
          refine x_iinc 7 1 [(7, .int (v7 + 1)), (0, .ref 65), (1, .int v1), (2, .int v2), (3, .int v3), (4, .int v4), (5, .int v5), (6, .int v6), (8, .int v8), (9, .int v9)] d_Md_plan_181 rfl (by decide) (Nat.le_of_ble_eq_true rfl) rfl ?_
          refine x_goto 96 d_Md_plan_184 (by decide) ?_
          refine x_pick [1, 2, 3, 4, 5, 6, 7, 0] rfl ?_
          exact hk96 v1 v2 v3 v4 v5 v6 (v7 + 1) p17.2 L h
        · replace h := xneg c21 h
          refine x_iload 7 d_Md_plan_173 rfl ?_
          refine x_istore [(5, .int v7), (0, .ref 65), (1, .int v1), (2, .int v2), (3, .int v3), (4, .int v4), (6, .int v6), (7, .int v7), (8, .int v8), (9, .int v9)] d_Md_plan_175 (Nat.le_of_ble_eq_true rfl) rfl ?_
          refine x_iload 8 d_Md_plan_177 rfl ?_
          refine x_istore [(6, .int v8), (5, .int v7), (0, .ref 65), (1, .int v1), (2, .int v2), (3, .int v3), (4, .int v4), (7, .int v7), (8, .int v8), (9, .int v9)] d_Md_plan_179 (Nat.le_of_ble_eq_true rfl) rfl ?_
          refine x_iinc 7 1 [(7, .int (v7 + 1)), (6, .int v8), (5, .int v7), (0, .ref 65), (1, .int v1), (2, .int v2), (3, .int v3), (4, .int v4), (8, .int v8), (9, .int v9)] d_Md_plan_181 rfl (by decide) (Nat.le_of_ble_eq_true rfl) rfl ?_
          refine x_goto 96 d_Md_plan_184 (by decide) ?_
          refine x_pick [3, 4, 5, 6, 7, 2, 1, 0] rfl ?_
          exact hk96 v1 v2 v3 v4 v7 v8 (v7 + 1) p17.2 L h
  · replace h := xneg c16 h
    refine x_iload 8 d_Md_plan_116 rfl ?_
    refine x_aload_n 0 d_Md_plan_118 rfl rfl ?_
    refine x_getP (q := 85) f_Md_79 sh_65 rfl d_Md_plan_119 ?_
    refine x_iconst 2 d_Md_plan_122 (by decide) ?_
    refine x_iload 9 d_Md_plan_123 rfl ?_
    refine x_imul d_Md_plan_125 ?_
    refine x_iload 7 d_Md_plan_126 rfl ?_
    refine x_iload_n 3 d_Md_plan_128 rfl rfl ?_
    refine x_iconst 1 d_Md_plan_129 (by decide) ?_
    refine x_isub d_Md_plan_130 ?_
    refine x_iload 9 d_Md_plan_131 rfl ?_
    refine x_isub d_Md_plan_133 ?_
    refine x_ishr d_Md_plan_134 ?_
    refine x_iconst 1 d_Md_plan_135 (by decide) ?_
    refine x_iand d_Md_plan_136 ?_
    refine x_iadd d_Md_plan_137 ?_
    obtain ⟨c22, h⟩ := xguard h
    refine x_iaload sh_85 c22 d_Md_plan_138 ?_
    refine x_iadd d_Md_plan_139 ?_
    refine x_istore [(8, .int (v8 + (V 85 ((2 * v9) + ((v7 >>> ((v3 - 1) - v9 &&& 31)) &&& 1)).toNatClampNeg))), (0, .ref 65), (1, .int v1), (2, .int v2), (3, .int v3), (4, .int v4), (5, .int v5), (6, .int v6), (7, .int v7), (9, .int v9)] d_Md_plan_140 (Nat.le_of_ble_eq_true rfl) rfl ?_
    refine x_iinc 9 1 [(9, .int (v9 + 1)), (8, .int (v8 + (V 85 ((2 * v9) + ((v7 >>> ((v3 - 1) - v9 &&& 31)) &&& 1)).toNatClampNeg))), (0, .ref 65), (1, .int v1), (2, .int v2), (3, .int v3), (4, .int v4), (5, .int v5), (6, .int v6), (7, .int v7)] d_Md_plan_142 rfl (by decide) (Nat.le_of_ble_eq_true rfl) rfl ?_
    refine x_goto 110 d_Md_plan_145 (by decide) ?_
    refine x_pick [2, 3, 4, 5, 6, 7, 8, 9, 1, 0] rfl ?_
    exact hk110 v1 v2 v3 v4 v5 v6 v7 (v8 + (V 85 ((2 * v9) + ((v7 >>> ((v3 - 1) - v9 &&& 31)) &&& 1)).toNatClampNeg)) (v9 + 1) V L h
def g_Md_plan_110 (k96 : Int32 → Int32 → Int32 → Int32 → Int32 → Int32 → Int32 → xV → xL → Option (Int32 × xV × xL)) : Nat → Int32 → Int32 → Int32 → Int32 → Int32 → Int32 → Int32 → Int32 → Int32 → xV → xL → Option (Int32 × xV × xL)
  | 0, _, _, _, _, _, _, _, _, _, _, _ => none
  | n + 1, v1, v2, v3, v4, v5, v6, v7, v8, v9, V, L => b_Md_plan_110 k96 (g_Md_plan_110 k96 n) v1 v2 v3 v4 v5 v6 v7 v8 v9 V L
theorem tg_Md_plan_110 (k96 : Int32 → Int32 → Int32 → Int32 → Int32 → Int32 → Int32 → xV → xL → Option (Int32 × xV × xL)) (res : Int32 × xV × xL) (hk96 : ∀ (v1 : Int32) (v2 : Int32) (v3 : Int32) (v4 : Int32) (v5 : Int32) (v6 : Int32) (v7 : Int32) (V : xV) (L : xL), k96 v1 v2 v3 v4 v5 v6 v7 V L = some res → X M_Md_plan (xRm (11) M_Md_plan) (xZ M_Md_plan (fun o h' => o = some (.int res.1) ∧ h' = (SH, res.2.1, res.2.2))) SH V L 0 0 96 [(0, .ref 65), (1, .int v1), (2, .int v2), (3, .int v3), (4, .int v4), (5, .int v5), (6, .int v6), (7, .int v7)] []) : ∀ (n : Nat) (v1 : Int32) (v2 : Int32) (v3 : Int32) (v4 : Int32) (v5 : Int32) (v6 : Int32) (v7 : Int32) (v8 : Int32) (v9 : Int32) (V : xV) (L : xL), g_Md_plan_110 k96 n v1 v2 v3 v4 v5 v6 v7 v8 v9 V L = some res → X M_Md_plan (xRm (11) M_Md_plan) (xZ M_Md_plan (fun o h' => o = some (.int res.1) ∧ h' = (SH, res.2.1, res.2.2))) SH V L 0 0 110 [(0, .ref 65), (1, .int v1), (2, .int v2), (3, .int v3), (4, .int v4), (5, .int v5), (6, .int v6), (7, .int v7), (8, .int v8), (9, .int v9)] []
  | 0, _, _, _, _, _, _, _, _, _, _, _, h => by cases h
  | n + 1, v1, v2, v3, v4, v5, v6, v7, v8, v9, V, L, h => tb_Md_plan_110 k96 (g_Md_plan_110 k96 n) res hk96 (tg_Md_plan_110 k96 res hk96 n) v1 v2 v3 v4 v5 v6 v7 v8 v9 V L h
def b_Md_plan_96 (k96 : Int32 → Int32 → Int32 → Int32 → Int32 → Int32 → Int32 → xV → xL → Option (Int32 × xV × xL)) (v1 : Int32) (v2 : Int32) (v3 : Int32) (v4 : Int32) (v5 : Int32) (v6 : Int32) (v7 : Int32) (V : xV) (L : xL) : Option (Int32 × xV × xL) := (if (1 <<< (v3 &&& 31)) ≤ v7 then (if ¬ v4 = (-1) then some ((v5 >>> ((v3 - 1) - v4 &&& 31)) &&& 1, V, L) else some (v6, V, L)) else g_Md_plan_110 k96 2000 v1 v2 v3 v4 v5 v6 v7 0 0 V L)
theorem tb_Md_plan_96 (k96 : Int32 → Int32 → Int32 → Int32 → Int32 → Int32 → Int32 → xV → xL → Option (Int32 × xV × xL)) (res : Int32 × xV × xL) (hk96 : ∀ (v1 : Int32) (v2 : Int32) (v3 : Int32) (v4 : Int32) (v5 : Int32) (v6 : Int32) (v7 : Int32) (V : xV) (L : xL), k96 v1 v2 v3 v4 v5 v6 v7 V L = some res → X M_Md_plan (xRm (11) M_Md_plan) (xZ M_Md_plan (fun o h' => o = some (.int res.1) ∧ h' = (SH, res.2.1, res.2.2))) SH V L 0 0 96 [(0, .ref 65), (1, .int v1), (2, .int v2), (3, .int v3), (4, .int v4), (5, .int v5), (6, .int v6), (7, .int v7)] []) (v1 : Int32) (v2 : Int32) (v3 : Int32) (v4 : Int32) (v5 : Int32) (v6 : Int32) (v7 : Int32) (V : xV) (L : xL) (h : b_Md_plan_96 k96 v1 v2 v3 v4 v5 v6 v7 V L = some res) : X M_Md_plan (xRm (11) M_Md_plan) (xZ M_Md_plan (fun o h' => o = some (.int res.1) ∧ h' = (SH, res.2.1, res.2.2))) SH V L 0 0 96 [(0, .ref 65), (1, .int v1), (2, .int v2), (3, .int v3), (4, .int v4), (5, .int v5), (6, .int v6), (7, .int v7)] [] := by
  unfold b_Md_plan_96 at h
  refine x_iload 7 d_Md_plan_96 rfl ?_
  refine x_iconst 1 d_Md_plan_98 (by decide) ?_
  refine x_iload_n 3 d_Md_plan_99 rfl rfl ?_
  refine x_ishl d_Md_plan_100 ?_
  refine x_icmp_ge 187 d_Md_plan_101 (by decide) (fun c14 => ?_) (fun c14 => ?_)
  · replace h := xpos c14 h
    refine x_iload 4 d_Md_plan_187 rfl ?_
    refine x_iconst (-1) d_Md_plan_189 (by decide) ?_
    refine x_icmp_ne 198 d_Md_plan_190 (by decide) (fun c15 => ?_) (fun c15 => ?_)
    · replace h := xpos c15 h
      refine x_iload 5 d_Md_plan_198 rfl ?_
      refine x_iload_n 3 d_Md_plan_200 rfl rfl ?_
      refine x_iconst 1 d_Md_plan_201 (by decide) ?_
      refine x_isub d_Md_plan_202 ?_
      refine x_iload 4 d_Md_plan_203 rfl ?_
      refine x_isub d_Md_plan_205 ?_
      refine x_ishr d_Md_plan_206 ?_
      refine x_iconst 1 d_Md_plan_207 (by decide) ?_
      refine x_iand d_Md_plan_208 ?_
      obtain rfl := Option.some.inj h
      exact x_ireturn rfl d_Md_plan_209 (Nat.le_refl _) (Nat.le_refl _) ⟨rfl, rfl⟩
    · replace h := xneg c15 h
      refine x_iload 6 d_Md_plan_193 rfl ?_
      refine x_goto 209 d_Md_plan_195 (by decide) ?_
      obtain rfl := Option.some.inj h
      exact x_ireturn rfl d_Md_plan_209 (Nat.le_refl _) (Nat.le_refl _) ⟨rfl, rfl⟩
  · replace h := xneg c14 h
    refine x_iconst 0 d_Md_plan_104 (by decide) ?_
    refine x_istore [(8, .int 0), (0, .ref 65), (1, .int v1), (2, .int v2), (3, .int v3), (4, .int v4), (5, .int v5), (6, .int v6), (7, .int v7)] d_Md_plan_105 (Nat.le_of_ble_eq_true rfl) rfl ?_
    refine x_iconst 0 d_Md_plan_107 (by decide) ?_
    refine x_istore [(9, .int 0), (8, .int 0), (0, .ref 65), (1, .int v1), (2, .int v2), (3, .int v3), (4, .int v4), (5, .int v5), (6, .int v6), (7, .int v7)] d_Md_plan_108 (Nat.le_of_ble_eq_true rfl) rfl ?_
    refine x_pick [2, 3, 4, 5, 6, 7, 8, 9, 1, 0] rfl ?_
    exact tg_Md_plan_110 k96 res hk96 _ v1 v2 v3 v4 v5 v6 v7 0 0 V L h
def g_Md_plan_96  : Nat → Int32 → Int32 → Int32 → Int32 → Int32 → Int32 → Int32 → xV → xL → Option (Int32 × xV × xL)
  | 0, _, _, _, _, _, _, _, _, _ => none
  | n + 1, v1, v2, v3, v4, v5, v6, v7, V, L => b_Md_plan_96 (g_Md_plan_96  n) v1 v2 v3 v4 v5 v6 v7 V L
theorem tg_Md_plan_96  (res : Int32 × xV × xL)  : ∀ (n : Nat) (v1 : Int32) (v2 : Int32) (v3 : Int32) (v4 : Int32) (v5 : Int32) (v6 : Int32) (v7 : Int32) (V : xV) (L : xL), g_Md_plan_96  n v1 v2 v3 v4 v5 v6 v7 V L = some res → X M_Md_plan (xRm (11) M_Md_plan) (xZ M_Md_plan (fun o h' => o = some (.int res.1) ∧ h' = (SH, res.2.1, res.2.2))) SH V L 0 0 96 [(0, .ref 65), (1, .int v1), (2, .int v2), (3, .int v3), (4, .int v4), (5, .int v5), (6, .int v6), (7, .int v7)] []
  | 0, _, _, _, _, _, _, _, _, _, h => by cases h
  | n + 1, v1, v2, v3, v4, v5, v6, v7, V, L, h => tb_Md_plan_96 (g_Md_plan_96  n) res (tg_Md_plan_96 res n) v1 v2 v3 v4 v5 v6 v7 V L h
def b_Md_plan_51 (k51 : Int32 → Int32 → Int32 → Int32 → Int32 → xV → xL → Option (Int32 × xV × xL)) (v1 : Int32) (v2 : Int32) (v3 : Int32) (v4 : Int32) (v5 : Int32) (V : xV) (L : xL) : Option (Int32 × xV × xL) := (if (2 * v3) ≤ v5 then g_Md_plan_96 2000 v1 v2 v3 v4 (-1) 0 0 V L else (Option.bind (f_Md_gainBy v1 (v2 + (v5 / 2)) (xrem v5 2) V L) fun p11 => (if xI v5 20 = true then k51 v1 v2 v3 v4 (v5 + 1) (x2 p11.2.1 85 v5.toNatClampNeg p11.1) p11.2.2 else none)))
theorem tb_Md_plan_51 (k51 : Int32 → Int32 → Int32 → Int32 → Int32 → xV → xL → Option (Int32 × xV × xL)) (res : Int32 × xV × xL) (hk51 : ∀ (v1 : Int32) (v2 : Int32) (v3 : Int32) (v4 : Int32) (v5 : Int32) (V : xV) (L : xL), k51 v1 v2 v3 v4 v5 V L = some res → X M_Md_plan (xRm (11) M_Md_plan) (xZ M_Md_plan (fun o h' => o = some (.int res.1) ∧ h' = (SH, res.2.1, res.2.2))) SH V L 0 0 51 [(0, .ref 65), (1, .int v1), (2, .int v2), (3, .int v3), (4, .int v4), (5, .int v5)] []) (v1 : Int32) (v2 : Int32) (v3 : Int32) (v4 : Int32) (v5 : Int32) (V : xV) (L : xL) (h : b_Md_plan_51 k51 v1 v2 v3 v4 v5 V L = some res) : X M_Md_plan (xRm (11) M_Md_plan) (xZ M_Md_plan (fun o h' => o = some (.int res.1) ∧ h' = (SH, res.2.1, res.2.2))) SH V L 0 0 51 [(0, .ref 65), (1, .int v1), (2, .int v2), (3, .int v3), (4, .int v4), (5, .int v5)] [] := by
  unfold b_Md_plan_51 at h
  refine x_iload 5 d_Md_plan_51 rfl ?_
  refine x_iconst 2 d_Md_plan_53 (by decide) ?_
  refine x_iload_n 3 d_Md_plan_54 rfl rfl ?_
  refine x_imul d_Md_plan_55 ?_
  refine x_icmp_ge 87 d_Md_plan_56 (by decide) (fun c10 => ?_) (fun c10 => ?_)
  · replace h := xpos c10 h
    refine x_iconst (-1) d_Md_plan_87 (by decide) ?_
    refine x_istore [(5, .int (-1)), (0, .ref 65), (1, .int v1), (2, .int v2), (3, .int v3), (4, .int v4)] d_Md_plan_88 (Nat.le_of_ble_eq_true rfl) rfl ?_
    refine x_iconst 0 d_Md_plan_90 (by decide) ?_
    refine x_istore [(6, .int 0), (5, .int (-1)), (0, .ref 65), (1, .int v1), (2, .int v2), (3, .int v3), (4, .int v4)] d_Md_plan_91 (Nat.le_of_ble_eq_true rfl) rfl ?_
    refine x_iconst 0 d_Md_plan_93 (by decide) ?_
    refine x_istore [(7, .int 0), (6, .int 0), (5, .int (-1)), (0, .ref 65), (1, .int v1), (2, .int v2), (3, .int v3), (4, .int v4)] d_Md_plan_94 (Nat.le_of_ble_eq_true rfl) rfl ?_
    refine x_pick [3, 4, 5, 6, 7, 2, 1, 0] rfl ?_
    exact tg_Md_plan_96 res _ v1 v2 v3 v4 (-1) 0 0 V L h
  · replace h := xneg c10 h
    refine x_aload_n 0 d_Md_plan_59 rfl rfl ?_
    refine x_getP (q := 85) f_Md_79 sh_65 rfl d_Md_plan_60 ?_
    refine x_iload 5 d_Md_plan_63 rfl ?_
    refine x_aload_n 0 d_Md_plan_65 rfl rfl ?_
    refine x_iload_n 1 d_Md_plan_66 rfl rfl ?_
    refine x_iload_n 2 d_Md_plan_67 rfl rfl ?_
    refine x_iload 5 d_Md_plan_68 rfl ?_
    refine x_iconst 2 d_Md_plan_70 (by decide) ?_
    refine x_idiv d_Md_plan_71 (by decide) ?_
    refine x_iadd d_Md_plan_72 ?_
    refine x_iload 5 d_Md_plan_73 rfl ?_
    refine x_iconst 2 d_Md_plan_75 (by decide) ?_
    refine x_irem2 d_Md_plan_76 (by decide) ?_
    obtain ⟨p11, e12, h⟩ := xbind h
    refine x_callV0 e_Md_352 sh_65 rfl (t_Md_gainBy v1 (v2 + (v5 / 2)) (xrem v5 2) V L _ e12) rfl rfl rfl (Nat.le_of_ble_eq_true rfl) (xfit_of (by omega) (Nat.le_of_ble_eq_true rfl)) (Nat.zero_le _) (Nat.zero_le _) d_Md_plan_77 ?_
    obtain ⟨c13, h⟩ := xguard h
    refine x_iastore sh_85 c13 d_Md_plan_80 ?_
    refine x_iinc 5 1 [(5, .int (v5 + 1)), (0, .ref 65), (1, .int v1), (2, .int v2), (3, .int v3), (4, .int v4)] d_Md_plan_81 rfl (by decide) (Nat.le_of_ble_eq_true rfl) rfl ?_
    refine x_goto 51 d_Md_plan_84 (by decide) ?_
    refine x_pick [1, 2, 3, 4, 5, 0] rfl ?_
    exact hk51 v1 v2 v3 v4 (v5 + 1) (x2 p11.2.1 85 v5.toNatClampNeg p11.1) p11.2.2 h
def g_Md_plan_51  : Nat → Int32 → Int32 → Int32 → Int32 → Int32 → xV → xL → Option (Int32 × xV × xL)
  | 0, _, _, _, _, _, _, _ => none
  | n + 1, v1, v2, v3, v4, v5, V, L => b_Md_plan_51 (g_Md_plan_51  n) v1 v2 v3 v4 v5 V L
theorem tg_Md_plan_51  (res : Int32 × xV × xL)  : ∀ (n : Nat) (v1 : Int32) (v2 : Int32) (v3 : Int32) (v4 : Int32) (v5 : Int32) (V : xV) (L : xL), g_Md_plan_51  n v1 v2 v3 v4 v5 V L = some res → X M_Md_plan (xRm (11) M_Md_plan) (xZ M_Md_plan (fun o h' => o = some (.int res.1) ∧ h' = (SH, res.2.1, res.2.2))) SH V L 0 0 51 [(0, .ref 65), (1, .int v1), (2, .int v2), (3, .int v3), (4, .int v4), (5, .int v5)] []
  | 0, _, _, _, _, _, _, _, h => by cases h
  | n + 1, v1, v2, v3, v4, v5, V, L, h => tb_Md_plan_51 (g_Md_plan_51  n) res (tg_Md_plan_51 res n) v1 v2 v3 v4 v5 V L h
def f_Md_plan (a1 : Int32) (a2 : Int32) (a3 : Int32) (a4 : Int32) (V : xV) (L : xL) : Option (Int32 × xV × xL) := (if (f_Md_isProvince a1) = 0 then some ((-100000000), V, L) else (if (f_Md_isDay a2) = 0 then some ((-100000000), V, L) else (if (f_Md_in a3 1 10) = 0 then some ((-100000000), V, L) else (if 30 < (a2 + a3) then some ((-100000000), V, L) else (if ¬ (f_Md_in a4 (-1) (a3 - 1)) = 0 then g_Md_plan_51 2000 a1 a2 a3 a4 0 V L else some ((-100000000), V, L))))))
theorem t_Md_plan (a1 : Int32) (a2 : Int32) (a3 : Int32) (a4 : Int32) (V : xV) (L : xL) (res : Int32 × xV × xL) (h : f_Md_plan a1 a2 a3 a4 V L = some res) : xRuns (11) M_Md_plan [.ref 65, .int a1, .int a2, .int a3, .int a4] (SH, V, L) (fun o h' => o = some (.int res.1) ∧ h' = (SH, res.2.1, res.2.2)) := by
  refine xRuns_of (by decide) (Nat.le_of_ble_eq_true rfl) ?_
  unfold f_Md_plan at h
  show X M_Md_plan (xRm (11) M_Md_plan) (xZ M_Md_plan (fun o h' => o = some (.int res.1) ∧ h' = (SH, res.2.1, res.2.2))) SH V L 0 0 0 [(0, .ref 65), (1, .int a1), (2, .int a2), (3, .int a3), (4, .int a4)] []
  refine x_iload_n 1 d_Md_plan_0 rfl rfl ?_
  refine x_callS0 e_Md_93 (t_Md_isProvince a1 V L _ rfl) rfl rfl rfl (Nat.le_of_ble_eq_true rfl) (xfit_of (by omega) (Nat.le_of_ble_eq_true rfl)) (Nat.zero_le _) (Nat.zero_le _) d_Md_plan_1 ?_
  refine x_if_eq 44 d_Md_plan_4 (by decide) (fun c2 => ?_) (fun c2 => ?_)
  · replace h := xpos c2 h
    refine x_ldcw c_Md_345 d_Md_plan_44 ?_
    obtain rfl := Option.some.inj h
    exact x_ireturn rfl d_Md_plan_47 (Nat.le_refl _) (Nat.le_refl _) ⟨rfl, rfl⟩
  · replace h := xneg c2 h
    refine x_iload_n 2 d_Md_plan_7 rfl rfl ?_
    refine x_callS0 e_Md_97 (t_Md_isDay a2 V L _ rfl) rfl rfl rfl (Nat.le_of_ble_eq_true rfl) (xfit_of (by omega) (Nat.le_of_ble_eq_true rfl)) (Nat.zero_le _) (Nat.zero_le _) d_Md_plan_8 ?_
    refine x_if_eq 44 d_Md_plan_11 (by decide) (fun c4 => ?_) (fun c4 => ?_)
    · replace h := xpos c4 h
      refine x_ldcw c_Md_345 d_Md_plan_44 ?_
      obtain rfl := Option.some.inj h
      exact x_ireturn rfl d_Md_plan_47 (Nat.le_refl _) (Nat.le_refl _) ⟨rfl, rfl⟩
    · replace h := xneg c4 h
      refine x_iload_n 3 d_Md_plan_14 rfl rfl ?_
      refine x_iconst 1 d_Md_plan_15 (by decide) ?_
      refine x_bipush 10 d_Md_plan_16 (by decide) ?_
      refine x_callS0 e_Md_89 (t_Md_in a3 1 10 V L _ rfl) rfl rfl rfl (Nat.le_of_ble_eq_true rfl) (xfit_of (by omega) (Nat.le_of_ble_eq_true rfl)) (Nat.zero_le _) (Nat.zero_le _) d_Md_plan_18 ?_
      refine x_if_eq 44 d_Md_plan_21 (by decide) (fun c6 => ?_) (fun c6 => ?_)
      · replace h := xpos c6 h
        refine x_ldcw c_Md_345 d_Md_plan_44 ?_
        obtain rfl := Option.some.inj h
        exact x_ireturn rfl d_Md_plan_47 (Nat.le_refl _) (Nat.le_refl _) ⟨rfl, rfl⟩
      · replace h := xneg c6 h
        refine x_iload_n 2 d_Md_plan_24 rfl rfl ?_
        refine x_iload_n 3 d_Md_plan_25 rfl rfl ?_
        refine x_iadd d_Md_plan_26 ?_
        refine x_bipush 30 d_Md_plan_27 (by decide) ?_
        refine x_icmp_gt 44 d_Md_plan_29 (by decide) (fun c7 => ?_) (fun c7 => ?_)
        · replace h := xpos c7 h
          refine x_ldcw c_Md_345 d_Md_plan_44 ?_
          obtain rfl := Option.some.inj h
          exact x_ireturn rfl d_Md_plan_47 (Nat.le_refl _) (Nat.le_refl _) ⟨rfl, rfl⟩
        · replace h := xneg c7 h
          refine x_iload 4 d_Md_plan_32 rfl ?_
          refine x_iconst (-1) d_Md_plan_34 (by decide) ?_
          refine x_iload_n 3 d_Md_plan_35 rfl rfl ?_
          refine x_iconst 1 d_Md_plan_36 (by decide) ?_
          refine x_isub d_Md_plan_37 ?_
          refine x_callS0 e_Md_89 (t_Md_in a4 (-1) (a3 - 1) V L _ rfl) rfl rfl rfl (Nat.le_of_ble_eq_true rfl) (xfit_of (by omega) (Nat.le_of_ble_eq_true rfl)) (Nat.zero_le _) (Nat.zero_le _) d_Md_plan_38 ?_
          refine x_if_ne 48 d_Md_plan_41 (by decide) (fun c9 => ?_) (fun c9 => ?_)
          · replace h := xpos c9 h
            refine x_iconst 0 d_Md_plan_48 (by decide) ?_
            refine x_istore [(5, .int 0), (0, .ref 65), (1, .int a1), (2, .int a2), (3, .int a3), (4, .int a4)] d_Md_plan_49 (Nat.le_of_ble_eq_true rfl) rfl ?_
            refine x_pick [1, 2, 3, 4, 5, 0] rfl ?_
            exact tg_Md_plan_51 res _ a1 a2 a3 a4 0 V L h
          · replace h := xneg c9 h
            refine x_ldcw c_Md_345 d_Md_plan_44 ?_
            obtain rfl := Option.some.inj h
            exact x_ireturn rfl d_Md_plan_47 (Nat.le_refl _) (Nat.le_refl _) ⟨rfl, rfl⟩
-- Md_isLike
def b_Md_isLike_76 (V : xV) (v4 : Int32) (v5 : Int32) (v6 : Int32) (s0 : Int32) : Option (Int32) := (if ¬ v4 = v5 then some 0 else (if ¬ v6 = s0 then some 0 else some 1))
theorem tb_Md_isLike_76 {V : xV} {L : xL} (res : Int32)  (v4 : Int32) (v5 : Int32) (v6 : Int32) (s0 : Int32) (h : b_Md_isLike_76 V v4 v5 v6 s0 = some res) : X M_Md_isLike (xRm (2) M_Md_isLike) (xZ M_Md_isLike (fun o h' => o = some (.int res) ∧ h' = (SH, V, L))) SH V L 0 0 76 [(4, .int v4), (5, .int v5), (6, .int v6)] [.int s0] := by
  unfold b_Md_isLike_76 at h
  refine x_istore [(7, .int s0), (4, .int v4), (5, .int v5), (6, .int v6)] d_Md_isLike_76 (Nat.le_of_ble_eq_true rfl) rfl ?_
  refine x_iload 1 d_Md_isLike_78 rfl ?_
  refine x_iload 2 d_Md_isLike_80 rfl ?_
  refine x_icmp_ne 96 d_Md_isLike_82 (by decide) (fun c11 => ?_) (fun c11 => ?_)
  · replace h := xpos c11 h
    refine x_iconst 0 d_Md_isLike_96 (by decide) ?_
    obtain rfl := Option.some.inj h
    exact x_zreturn rfl rfl d_Md_isLike_97 (Nat.le_refl _) (Nat.le_refl _) ⟨rfl, rfl⟩
  · replace h := xneg c11 h
    refine x_iload 3 d_Md_isLike_85 rfl ?_
    refine x_iload 0 d_Md_isLike_87 rfl ?_
    refine x_icmp_ne 96 d_Md_isLike_89 (by decide) (fun c12 => ?_) (fun c12 => ?_)
    · replace h := xpos c12 h
      refine x_iconst 0 d_Md_isLike_96 (by decide) ?_
      obtain rfl := Option.some.inj h
      exact x_zreturn rfl rfl d_Md_isLike_97 (Nat.le_refl _) (Nat.le_refl _) ⟨rfl, rfl⟩
    · replace h := xneg c12 h
      refine x_iconst 1 d_Md_isLike_92 (by decide) ?_
      refine x_goto 97 d_Md_isLike_93 (by decide) ?_
      obtain rfl := Option.some.inj h
      exact x_zreturn rfl rfl d_Md_isLike_97 (Nat.le_refl _) (Nat.le_refl _) ⟨rfl, rfl⟩
def b_Md_isLike_55 (V : xV) (v3 : Int32) (v4 : Int32) (v5 : Int32) (s0 : Int32) : Option (Int32) := (if ¬ v3 = 0 then (if xI ((10 + v3) - 1) 270 = true then b_Md_isLike_76 V v4 v5 s0 (V 66 ((10 + v3) - 1).toNatClampNeg) else none) else b_Md_isLike_76 V v4 v5 s0 0)
theorem tb_Md_isLike_55 {V : xV} {L : xL} (res : Int32)  (v3 : Int32) (v4 : Int32) (v5 : Int32) (s0 : Int32) (h : b_Md_isLike_55 V v3 v4 v5 s0 = some res) : X M_Md_isLike (xRm (2) M_Md_isLike) (xZ M_Md_isLike (fun o h' => o = some (.int res) ∧ h' = (SH, V, L))) SH V L 0 0 55 [(0, .ref 65), (3, .int v3), (4, .int v4), (5, .int v5)] [.int s0] := by
  unfold b_Md_isLike_55 at h
  refine x_istore [(6, .int s0), (0, .ref 65), (3, .int v3), (4, .int v4), (5, .int v5)] d_Md_isLike_55 (Nat.le_of_ble_eq_true rfl) rfl ?_
  refine x_iload_n 2 d_Md_isLike_57 rfl rfl ?_
  refine x_if_ne 65 d_Md_isLike_58 (by decide) (fun c9 => ?_) (fun c9 => ?_)
  · replace h := xpos c9 h
    refine x_aload_n 1 d_Md_isLike_65 rfl rfl ?_
    refine x_getP (q := 66) f_Md_7 sh_65 rfl d_Md_isLike_66 ?_
    refine x_bipush 10 d_Md_isLike_69 (by decide) ?_
    refine x_iload_n 2 d_Md_isLike_71 rfl rfl ?_
    refine x_iadd d_Md_isLike_72 ?_
    refine x_iconst 1 d_Md_isLike_73 (by decide) ?_
    refine x_isub d_Md_isLike_74 ?_
    obtain ⟨c10, h⟩ := xguard h
    refine x_iaload sh_66 c10 d_Md_isLike_75 ?_
    refine x_pick [3, 4, 0] rfl ?_
    exact tb_Md_isLike_76 (V := V) (L := L) res v4 v5 s0 (V 66 ((10 + v3) - 1).toNatClampNeg) h
  · replace h := xneg c9 h
    refine x_iconst 0 d_Md_isLike_61 (by decide) ?_
    refine x_goto 76 d_Md_isLike_62 (by decide) ?_
    refine x_pick [3, 4, 0] rfl ?_
    exact tb_Md_isLike_76 (V := V) (L := L) res v4 v5 s0 0 h
def b_Md_isLike_34 (V : xV) (v2 : Int32) (v3 : Int32) (v4 : Int32) (s0 : Int32) : Option (Int32) := (if ¬ v2 = 0 then (if xI ((10 + v2) - 1) 270 = true then b_Md_isLike_55 V v3 v4 s0 (V 66 ((10 + v2) - 1).toNatClampNeg) else none) else b_Md_isLike_55 V v3 v4 s0 0)
theorem tb_Md_isLike_34 {V : xV} {L : xL} (res : Int32)  (v2 : Int32) (v3 : Int32) (v4 : Int32) (s0 : Int32) (h : b_Md_isLike_34 V v2 v3 v4 s0 = some res) : X M_Md_isLike (xRm (2) M_Md_isLike) (xZ M_Md_isLike (fun o h' => o = some (.int res) ∧ h' = (SH, V, L))) SH V L 0 0 34 [(0, .ref 65), (2, .int v2), (3, .int v3), (4, .int v4)] [.int s0] := by
  unfold b_Md_isLike_34 at h
  refine x_istore [(5, .int s0), (0, .ref 65), (2, .int v2), (3, .int v3), (4, .int v4)] d_Md_isLike_34 (Nat.le_of_ble_eq_true rfl) rfl ?_
  refine x_iload_n 2 d_Md_isLike_36 rfl rfl ?_
  refine x_if_ne 44 d_Md_isLike_37 (by decide) (fun c7 => ?_) (fun c7 => ?_)
  · replace h := xpos c7 h
    refine x_aload_n 1 d_Md_isLike_44 rfl rfl ?_
    refine x_getP (q := 66) f_Md_7 sh_65 rfl d_Md_isLike_45 ?_
    refine x_bipush 10 d_Md_isLike_48 (by decide) ?_
    refine x_iload_n 2 d_Md_isLike_50 rfl rfl ?_
    refine x_iadd d_Md_isLike_51 ?_
    refine x_iconst 1 d_Md_isLike_52 (by decide) ?_
    refine x_isub d_Md_isLike_53 ?_
    obtain ⟨c8, h⟩ := xguard h
    refine x_iaload sh_66 c8 d_Md_isLike_54 ?_
    refine x_pick [1, 3, 4, 0] rfl ?_
    exact tb_Md_isLike_55 (V := V) (L := L) res v3 v4 s0 (V 66 ((10 + v2) - 1).toNatClampNeg) h
  · replace h := xneg c7 h
    refine x_iconst 0 d_Md_isLike_40 (by decide) ?_
    refine x_goto 55 d_Md_isLike_41 (by decide) ?_
    refine x_pick [1, 3, 4, 0] rfl ?_
    exact tb_Md_isLike_55 (V := V) (L := L) res v3 v4 s0 0 h
def b_Md_isLike_16 (V : xV) (v1 : Int32) (v2 : Int32) (v3 : Int32) (s0 : Int32) : Option (Int32) := (if ¬ v3 = 0 then (Option.bind (f_Md_decreeOf (v3 - 1) v1 V) fun p5 => b_Md_isLike_34 V v2 v3 s0 p5) else b_Md_isLike_34 V v2 v3 s0 0)
theorem tb_Md_isLike_16 {V : xV} {L : xL} (res : Int32)  (v1 : Int32) (v2 : Int32) (v3 : Int32) (s0 : Int32) (h : b_Md_isLike_16 V v1 v2 v3 s0 = some res) : X M_Md_isLike (xRm (2) M_Md_isLike) (xZ M_Md_isLike (fun o h' => o = some (.int res) ∧ h' = (SH, V, L))) SH V L 0 0 16 [(0, .ref 65), (1, .int v1), (2, .int v2), (3, .int v3)] [.int s0] := by
  unfold b_Md_isLike_16 at h
  refine x_istore [(4, .int s0), (0, .ref 65), (1, .int v1), (2, .int v2), (3, .int v3)] d_Md_isLike_16 (Nat.le_of_ble_eq_true rfl) rfl ?_
  refine x_iload_n 4 d_Md_isLike_18 rfl rfl ?_
  refine x_if_ne 26 d_Md_isLike_19 (by decide) (fun c4 => ?_) (fun c4 => ?_)
  · replace h := xpos c4 h
    refine x_aload_n 1 d_Md_isLike_26 rfl rfl ?_
    refine x_iload_n 4 d_Md_isLike_27 rfl rfl ?_
    refine x_iconst 1 d_Md_isLike_28 (by decide) ?_
    refine x_isub d_Md_isLike_29 ?_
    refine x_iload_n 2 d_Md_isLike_30 rfl rfl ?_
    obtain ⟨p5, e6, h⟩ := xbind h
    refine x_callV0 e_Md_291 sh_65 rfl (t_Md_decreeOf (v3 - 1) v1 V L _ e6) rfl rfl rfl (Nat.le_of_ble_eq_true rfl) (xfit_of (by omega) (Nat.le_of_ble_eq_true rfl)) (Nat.zero_le _) (Nat.zero_le _) d_Md_isLike_31 ?_
    refine x_pick [1, 3, 4, 0] rfl ?_
    exact tb_Md_isLike_34 (V := V) (L := L) res v2 v3 s0 p5 h
  · replace h := xneg c4 h
    refine x_iconst 0 d_Md_isLike_22 (by decide) ?_
    refine x_goto 34 d_Md_isLike_23 (by decide) ?_
    refine x_pick [1, 3, 4, 0] rfl ?_
    exact tb_Md_isLike_34 (V := V) (L := L) res v2 v3 s0 0 h
def f_Md_isLike (a1 : Int32) (a2 : Int32) (a3 : Int32) (V : xV) : Option (Int32) := (if ¬ a2 = 0 then (Option.bind (f_Md_decreeOf (a2 - 1) a1 V) fun p2 => b_Md_isLike_16 V a1 a2 a3 p2) else b_Md_isLike_16 V a1 a2 a3 0)
theorem t_Md_isLike (a1 : Int32) (a2 : Int32) (a3 : Int32) (V : xV) (L : xL) (res : Int32) (h : f_Md_isLike a1 a2 a3 V = some res) : xRuns (2) M_Md_isLike [.ref 65, .int a1, .int a2, .int a3] (SH, V, L) (fun o h' => o = some (.int res) ∧ h' = (SH, V, L)) := by
  refine xRuns_of (by decide) (Nat.le_of_ble_eq_true rfl) ?_
  unfold f_Md_isLike at h
  show X M_Md_isLike (xRm (2) M_Md_isLike) (xZ M_Md_isLike (fun o h' => o = some (.int res) ∧ h' = (SH, V, L))) SH V L 0 0 0 [(0, .ref 65), (1, .int a1), (2, .int a2), (3, .int a3)] []
  refine x_iload_n 2 d_Md_isLike_0 rfl rfl ?_
  refine x_if_ne 8 d_Md_isLike_1 (by decide) (fun c1 => ?_) (fun c1 => ?_)
  · replace h := xpos c1 h
    refine x_aload_n 0 d_Md_isLike_8 rfl rfl ?_
    refine x_iload_n 2 d_Md_isLike_9 rfl rfl ?_
    refine x_iconst 1 d_Md_isLike_10 (by decide) ?_
    refine x_isub d_Md_isLike_11 ?_
    refine x_iload_n 1 d_Md_isLike_12 rfl rfl ?_
    obtain ⟨p2, e3, h⟩ := xbind h
    refine x_callV0 e_Md_291 sh_65 rfl (t_Md_decreeOf (a2 - 1) a1 V L _ e3) rfl rfl rfl (Nat.le_of_ble_eq_true rfl) (xfit_of (by omega) (Nat.le_of_ble_eq_true rfl)) (Nat.zero_le _) (Nat.zero_le _) d_Md_isLike_13 ?_
    exact tb_Md_isLike_16 (V := V) (L := L) res a1 a2 a3 p2 h
  · replace h := xneg c1 h
    refine x_iconst 0 d_Md_isLike_4 (by decide) ?_
    refine x_goto 16 d_Md_isLike_5 (by decide) ?_
    exact tb_Md_isLike_16 (V := V) (L := L) res a1 a2 a3 0 h
-- Md_found
def b_Md_found_29 (V : xV) (k20 : Int32 → Int32 → Int32 → Option (Int32)) (k29 : Int32 → Int32 → Int32 → Int32 → Option (Int32)) (v1 : Int32) (v2 : Int32) (v3 : Int32) (v4 : Int32) : Option (Int32) := (if v3 ≤ v4 then k20 v1 v2 (v3 + 1) else (Option.bind (f_Md_isLike v1 v4 v3 V) fun p7 => (if p7 = 0 then k29 v1 v2 v3 (v4 + 1) else (Option.bind (f_Md_decreeOf v4 v1 V) fun p10 => (Option.bind (f_Md_decreeOf v3 v1 V) fun p12 => (if p10 = p12 then k29 v1 v2 v3 (v4 + 1) else (if ¬ v2 = 0 then some v4 else some v3)))))))
theorem tb_Md_found_29 {V : xV} {L : xL} (k20 : Int32 → Int32 → Int32 → Option (Int32)) (k29 : Int32 → Int32 → Int32 → Int32 → Option (Int32)) (res : Int32) (hk20 : ∀ (v1 : Int32) (v2 : Int32) (v3 : Int32), k20 v1 v2 v3 = some res → X M_Md_found (xRm (3) M_Md_found) (xZ M_Md_found (fun o h' => o = some (.int res) ∧ h' = (SH, V, L))) SH V L 0 0 20 [(0, .ref 65), (1, .int v1), (2, .int v2), (3, .int v3)] []) (hk29 : ∀ (v1 : Int32) (v2 : Int32) (v3 : Int32) (v4 : Int32), k29 v1 v2 v3 v4 = some res → X M_Md_found (xRm (3) M_Md_found) (xZ M_Md_found (fun o h' => o = some (.int res) ∧ h' = (SH, V, L))) SH V L 0 0 29 [(0, .ref 65), (1, .int v1), (2, .int v2), (3, .int v3), (4, .int v4)] []) (v1 : Int32) (v2 : Int32) (v3 : Int32) (v4 : Int32) (h : b_Md_found_29 V k20 k29 v1 v2 v3 v4 = some res) : X M_Md_found (xRm (3) M_Md_found) (xZ M_Md_found (fun o h' => o = some (.int res) ∧ h' = (SH, V, L))) SH V L 0 0 29 [(0, .ref 65), (1, .int v1), (2, .int v2), (3, .int v3), (4, .int v4)] [] := by
  unfold b_Md_found_29 at h
  refine x_iload 4 d_Md_found_29 rfl ?_
  refine x_iload_n 3 d_Md_found_31 rfl rfl ?_
  refine x_icmp_ge 79 d_Md_found_32 (by decide) (fun c6 => ?_) (fun c6 => ?_)
  · replace h := xpos c6 h
    refine x_iinc 3 1 [(3, .int (v3 + 1)), (0, .ref 65), (1, .int v1), (2, .int v2), (4, .int v4)] d_Md_found_79 rfl (by decide) (Nat.le_of_ble_eq_true rfl) rfl ?_
    refine x_goto 20 d_Md_found_82 (by decide) ?_
    refine x_pick [1, 2, 3, 0] rfl ?_
    exact hk20 v1 v2 (v3 + 1) h
  · replace h := xneg c6 h
    refine x_aload_n 0 d_Md_found_35 rfl rfl ?_
    refine x_iload_n 1 d_Md_found_36 rfl rfl ?_
    refine x_iload 4 d_Md_found_37 rfl ?_
    refine x_iload_n 3 d_Md_found_39 rfl rfl ?_
    obtain ⟨p7, e8, h⟩ := xbind h
    refine x_callV0 e_Md_359 sh_65 rfl (t_Md_isLike v1 v4 v3 V L _ e8) rfl rfl rfl (Nat.le_of_ble_eq_true rfl) (xfit_of (by omega) (Nat.le_of_ble_eq_true rfl)) (Nat.zero_le _) (Nat.zero_le _) d_Md_found_40 ?_
    refine x_if_eq 73 d_Md_found_43 (by decide) (fun c9 => ?_) (fun c9 => ?_)
    · replace h := xpos c9 h
      refine x_iinc 4 1 [(4, .int (v4 + 1)), (0, .ref 65), (1, .int v1), (2, .int v2), (3, .int v3)] d_Md_found_73 rfl (by decide) (Nat.le_of_ble_eq_true rfl) rfl ?_
      refine x_goto 29 d_Md_found_76 (by decide) ?_
      refine x_pick [1, 2, 3, 4, 0] rfl ?_
      exact hk29 v1 v2 v3 (v4 + 1) h
    · replace h := xneg c9 h
      refine x_aload_n 0 d_Md_found_46 rfl rfl ?_
      refine x_iload 4 d_Md_found_47 rfl ?_
      refine x_iload_n 1 d_Md_found_49 rfl rfl ?_
      obtain ⟨p10, e11, h⟩ := xbind h
      refine x_callV0 e_Md_291 sh_65 rfl (t_Md_decreeOf v4 v1 V L _ e11) rfl rfl rfl (Nat.le_of_ble_eq_true rfl) (xfit_of (by omega) (Nat.le_of_ble_eq_true rfl)) (Nat.zero_le _) (Nat.zero_le _) d_Md_found_50 ?_
      refine x_aload_n 0 d_Md_found_53 rfl rfl ?_
      refine x_iload_n 3 d_Md_found_54 rfl rfl ?_
      refine x_iload_n 1 d_Md_found_55 rfl rfl ?_
      obtain ⟨p12, e13, h⟩ := xbind h
      refine x_callV0 e_Md_291 sh_65 rfl (t_Md_decreeOf v3 v1 V L _ e13) rfl rfl rfl (Nat.le_of_ble_eq_true rfl) (xfit_of (by omega) (Nat.le_of_ble_eq_true rfl)) (Nat.zero_le _) (Nat.zero_le _) d_Md_found_56 ?_
      refine x_icmp_eq 73 d_Md_found_59 (by decide) (fun c14 => ?_) (fun c14 => ?_)
      · replace h := xpos c14 h
        refine x_iinc 4 1 [(4, .int (v4 + 1)), (0, .ref 65), (1, .int v1), (2, .int v2), (3, .int v3)] d_Md_found_73 rfl (by decide) (Nat.le_of_ble_eq_true rfl) rfl ?_
        refine x_goto 29 d_Md_found_76 (by decide) ?_
        refine x_pick [1, 2, 3, 4, 0] rfl ?_
        exact hk29 v1 v2 v3 (v4 + 1) h
      · replace h := xneg c14 h
        refine x_iload_n 2 d_Md_found_62 rfl rfl ?_
        refine x_if_ne 70 d_Md_found_63 (by decide) (fun c15 => ?_) (fun c15 => ?_)
        · replace h := xpos c15 h
          refine x_iload 4 d_Md_found_70 rfl ?_
          obtain rfl := Option.some.inj h
          exact x_ireturn rfl d_Md_found_72 (Nat.le_refl _) (Nat.le_refl _) ⟨rfl, rfl⟩
        · replace h := xneg c15 h
          refine x_iload_n 3 d_Md_found_66 rfl rfl ?_
          refine x_goto 72 d_Md_found_67 (by decide) ?_
          obtain rfl := Option.some.inj h
          exact x_ireturn rfl d_Md_found_72 (Nat.le_refl _) (Nat.le_refl _) ⟨rfl, rfl⟩
def g_Md_found_29 (V : xV) (k20 : Int32 → Int32 → Int32 → Option (Int32)) : Nat → Int32 → Int32 → Int32 → Int32 → Option (Int32)
  | 0, _, _, _, _ => none
  | n + 1, v1, v2, v3, v4 => b_Md_found_29 V k20 (g_Md_found_29 V k20 n) v1 v2 v3 v4
theorem tg_Md_found_29 {V : xV} {L : xL} (k20 : Int32 → Int32 → Int32 → Option (Int32)) (res : Int32) (hk20 : ∀ (v1 : Int32) (v2 : Int32) (v3 : Int32), k20 v1 v2 v3 = some res → X M_Md_found (xRm (3) M_Md_found) (xZ M_Md_found (fun o h' => o = some (.int res) ∧ h' = (SH, V, L))) SH V L 0 0 20 [(0, .ref 65), (1, .int v1), (2, .int v2), (3, .int v3)] []) : ∀ (n : Nat) (v1 : Int32) (v2 : Int32) (v3 : Int32) (v4 : Int32), g_Md_found_29 V k20 n v1 v2 v3 v4 = some res → X M_Md_found (xRm (3) M_Md_found) (xZ M_Md_found (fun o h' => o = some (.int res) ∧ h' = (SH, V, L))) SH V L 0 0 29 [(0, .ref 65), (1, .int v1), (2, .int v2), (3, .int v3), (4, .int v4)] []
  | 0, _, _, _, _, h => by cases h
  | n + 1, v1, v2, v3, v4, h => tb_Md_found_29 (V := V) (L := L) k20 (g_Md_found_29 V k20 n) res hk20 (tg_Md_found_29 (V := V) (L := L) k20 res hk20 n) v1 v2 v3 v4 h
def b_Md_found_20 (V : xV) (k20 : Int32 → Int32 → Int32 → Option (Int32)) (v1 : Int32) (v2 : Int32) (v3 : Int32) : Option (Int32) := (if 30 ≤ v3 then some (-1) else g_Md_found_29 V k20 2000 v1 v2 v3 0)
theorem tb_Md_found_20 {V : xV} {L : xL} (k20 : Int32 → Int32 → Int32 → Option (Int32)) (res : Int32) (hk20 : ∀ (v1 : Int32) (v2 : Int32) (v3 : Int32), k20 v1 v2 v3 = some res → X M_Md_found (xRm (3) M_Md_found) (xZ M_Md_found (fun o h' => o = some (.int res) ∧ h' = (SH, V, L))) SH V L 0 0 20 [(0, .ref 65), (1, .int v1), (2, .int v2), (3, .int v3)] []) (v1 : Int32) (v2 : Int32) (v3 : Int32) (h : b_Md_found_20 V k20 v1 v2 v3 = some res) : X M_Md_found (xRm (3) M_Md_found) (xZ M_Md_found (fun o h' => o = some (.int res) ∧ h' = (SH, V, L))) SH V L 0 0 20 [(0, .ref 65), (1, .int v1), (2, .int v2), (3, .int v3)] [] := by
  unfold b_Md_found_20 at h
  refine x_iload_n 3 d_Md_found_20 rfl rfl ?_
  refine x_bipush 30 d_Md_found_21 (by decide) ?_
  refine x_icmp_ge 85 d_Md_found_23 (by decide) (fun c5 => ?_) (fun c5 => ?_)
  · replace h := xpos c5 h
    refine x_iconst (-1) d_Md_found_85 (by decide) ?_
    obtain rfl := Option.some.inj h
    exact x_ireturn rfl d_Md_found_86 (Nat.le_refl _) (Nat.le_refl _) ⟨rfl, rfl⟩
  · replace h := xneg c5 h
    refine x_iconst 0 d_Md_found_26 (by decide) ?_
    refine x_istore [(4, .int 0), (0, .ref 65), (1, .int v1), (2, .int v2), (3, .int v3)] d_Md_found_27 (Nat.le_of_ble_eq_true rfl) rfl ?_
    refine x_pick [1, 2, 3, 4, 0] rfl ?_
    exact tg_Md_found_29 (V := V) (L := L) k20 res hk20 _ v1 v2 v3 0 h
def g_Md_found_20 (V : xV) : Nat → Int32 → Int32 → Int32 → Option (Int32)
  | 0, _, _, _ => none
  | n + 1, v1, v2, v3 => b_Md_found_20 V (g_Md_found_20 V n) v1 v2 v3
theorem tg_Md_found_20 {V : xV} {L : xL} (res : Int32)  : ∀ (n : Nat) (v1 : Int32) (v2 : Int32) (v3 : Int32), g_Md_found_20 V n v1 v2 v3 = some res → X M_Md_found (xRm (3) M_Md_found) (xZ M_Md_found (fun o h' => o = some (.int res) ∧ h' = (SH, V, L))) SH V L 0 0 20 [(0, .ref 65), (1, .int v1), (2, .int v2), (3, .int v3)] []
  | 0, _, _, _, h => by cases h
  | n + 1, v1, v2, v3, h => tb_Md_found_20 (V := V) (L := L) (g_Md_found_20 V n) res (tg_Md_found_20 (V := V) (L := L) res n) v1 v2 v3 h
def f_Md_found (a1 : Int32) (a2 : Int32) (V : xV) : Option (Int32) := (if (f_Md_isProvince a1) = 0 then some (-1) else (if ¬ (f_Md_in a2 0 1) = 0 then g_Md_found_20 V 2000 a1 a2 0 else some (-1)))
theorem t_Md_found (a1 : Int32) (a2 : Int32) (V : xV) (L : xL) (res : Int32) (h : f_Md_found a1 a2 V = some res) : xRuns (3) M_Md_found [.ref 65, .int a1, .int a2] (SH, V, L) (fun o h' => o = some (.int res) ∧ h' = (SH, V, L)) := by
  refine xRuns_of (by decide) (Nat.le_of_ble_eq_true rfl) ?_
  unfold f_Md_found at h
  show X M_Md_found (xRm (3) M_Md_found) (xZ M_Md_found (fun o h' => o = some (.int res) ∧ h' = (SH, V, L))) SH V L 0 0 0 [(0, .ref 65), (1, .int a1), (2, .int a2)] []
  refine x_iload_n 1 d_Md_found_0 rfl rfl ?_
  refine x_callS0 e_Md_93 (t_Md_isProvince a1 V L _ rfl) rfl rfl rfl (Nat.le_of_ble_eq_true rfl) (xfit_of (by omega) (Nat.le_of_ble_eq_true rfl)) (Nat.zero_le _) (Nat.zero_le _) d_Md_found_1 ?_
  refine x_if_eq 16 d_Md_found_4 (by decide) (fun c2 => ?_) (fun c2 => ?_)
  · replace h := xpos c2 h
    refine x_iconst (-1) d_Md_found_16 (by decide) ?_
    obtain rfl := Option.some.inj h
    exact x_ireturn rfl d_Md_found_17 (Nat.le_refl _) (Nat.le_refl _) ⟨rfl, rfl⟩
  · replace h := xneg c2 h
    refine x_iload_n 2 d_Md_found_7 rfl rfl ?_
    refine x_iconst 0 d_Md_found_8 (by decide) ?_
    refine x_iconst 1 d_Md_found_9 (by decide) ?_
    refine x_callS0 e_Md_89 (t_Md_in a2 0 1 V L _ rfl) rfl rfl rfl (Nat.le_of_ble_eq_true rfl) (xfit_of (by omega) (Nat.le_of_ble_eq_true rfl)) (Nat.zero_le _) (Nat.zero_le _) d_Md_found_10 ?_
    refine x_if_ne 18 d_Md_found_13 (by decide) (fun c4 => ?_) (fun c4 => ?_)
    · replace h := xpos c4 h
      refine x_iconst 0 d_Md_found_18 (by decide) ?_
      refine x_istore_n [(3, .int 0), (0, .ref 65), (1, .int a1), (2, .int a2)] d_Md_found_19 rfl (Nat.le_of_ble_eq_true rfl) rfl ?_
      refine x_pick [1, 2, 3, 0] rfl ?_
      exact tg_Md_found_20 (V := V) (L := L) res _ a1 a2 0 h
    · replace h := xneg c4 h
      refine x_iconst (-1) d_Md_found_16 (by decide) ?_
      obtain rfl := Option.some.inj h
      exact x_ireturn rfl d_Md_found_17 (Nat.le_refl _) (Nat.le_refl _) ⟨rfl, rfl⟩
-- Md_hasBy
def b_Md_hasBy_111 (v1 : Int32) (v4 : Int32) (v6 : Int32) (V : xV) (L : xL) : Option (Int32 × xV × xL) := (if xI ((2 * v1) + v4) 20 = true then some ((V 85 ((2 * v1) + v4).toNatClampNeg) + v6, V, L) else none)
theorem tb_Md_hasBy_111  (res : Int32 × xV × xL)  (v1 : Int32) (v4 : Int32) (v6 : Int32) (V : xV) (L : xL) (h : b_Md_hasBy_111 v1 v4 v6 V L = some res) : X M_Md_hasBy (xRm (5) M_Md_hasBy) (xZ M_Md_hasBy (fun o h' => o = some (.int res.1) ∧ h' = (SH, res.2.1, res.2.2))) SH V L 0 0 111 [(0, .ref 65), (1, .int v1), (4, .int v4), (6, .int v6)] [] := by
  unfold b_Md_hasBy_111 at h
  refine x_aload_n 0 d_Md_hasBy_111 rfl rfl ?_
  refine x_getP (q := 85) f_Md_79 sh_65 rfl d_Md_hasBy_112 ?_
  refine x_iconst 2 d_Md_hasBy_115 (by decide) ?_
  refine x_iload_n 1 d_Md_hasBy_116 rfl rfl ?_
  refine x_imul d_Md_hasBy_117 ?_
  refine x_iload 2 d_Md_hasBy_118 rfl ?_
  refine x_iadd d_Md_hasBy_120 ?_
  obtain ⟨c10, h⟩ := xguard h
  refine x_iaload sh_85 c10 d_Md_hasBy_121 ?_
  refine x_iload 3 d_Md_hasBy_122 rfl ?_
  refine x_iadd d_Md_hasBy_124 ?_
  obtain rfl := Option.some.inj h
  exact x_ireturn rfl d_Md_hasBy_125 (Nat.le_refl _) (Nat.le_refl _) ⟨rfl, rfl⟩
def b_Md_hasBy_13 (k13 : Int32 → Int32 → Int32 → Int32 → Int32 → Int32 → xV → xL → Option (Int32 × xV × xL)) (v1 : Int32) (v2 : Int32) (v3 : Int32) (v4 : Int32) (v5 : Int32) (v6 : Int32) (V : xV) (L : xL) : Option (Int32 × xV × xL) := (if 4 ≤ v6 then (Option.bind (f_Md_hasClause 5 V) fun p2 => (if p2 = 0 then b_Md_hasBy_111 v1 v4 0 V L else (Option.bind (f_Md_says 5 (x2 (x2 (x2 (x2 V 82 0 v2) 82 1 v1) 82 11 v4) 82 12 v5) L) fun p5 => b_Md_hasBy_111 v1 v4 (f_Md_held p5.1 (-999) 999) (x2 (x2 (x2 (x2 V 82 0 v2) 82 1 v1) 82 11 v4) 82 12 v5) p5.2))) else (if v6 = v1 then k13 v1 v2 v3 v4 (v5 + 0) (v6 + 1) V L else (if ((v3 >>> (v6 &&& 31)) &&& 1) = v4 then k13 v1 v2 v3 v4 (v5 + 0) (v6 + 1) V L else k13 v1 v2 v3 v4 (v5 + 1) (v6 + 1) V L)))
theorem tb_Md_hasBy_13 (k13 : Int32 → Int32 → Int32 → Int32 → Int32 → Int32 → xV → xL → Option (Int32 × xV × xL)) (res : Int32 × xV × xL) (hk13 : ∀ (v1 : Int32) (v2 : Int32) (v3 : Int32) (v4 : Int32) (v5 : Int32) (v6 : Int32) (V : xV) (L : xL), k13 v1 v2 v3 v4 v5 v6 V L = some res → X M_Md_hasBy (xRm (5) M_Md_hasBy) (xZ M_Md_hasBy (fun o h' => o = some (.int res.1) ∧ h' = (SH, res.2.1, res.2.2))) SH V L 0 0 13 [(0, .ref 65), (1, .int v1), (2, .int v2), (3, .int v3), (4, .int v4), (5, .int v5), (6, .int v6)] []) (v1 : Int32) (v2 : Int32) (v3 : Int32) (v4 : Int32) (v5 : Int32) (v6 : Int32) (V : xV) (L : xL) (h : b_Md_hasBy_13 k13 v1 v2 v3 v4 v5 v6 V L = some res) : X M_Md_hasBy (xRm (5) M_Md_hasBy) (xZ M_Md_hasBy (fun o h' => o = some (.int res.1) ∧ h' = (SH, res.2.1, res.2.2))) SH V L 0 0 13 [(0, .ref 65), (1, .int v1), (2, .int v2), (3, .int v3), (4, .int v4), (5, .int v5), (6, .int v6)] [] := by
  unfold b_Md_hasBy_13 at h
  refine x_iload 6 d_Md_hasBy_13 rfl ?_
  refine x_iconst 4 d_Md_hasBy_15 (by decide) ?_
  refine x_icmp_ge 52 d_Md_hasBy_16 (by decide) (fun c1 => ?_) (fun c1 => ?_)
  · replace h := xpos c1 h
    refine x_iconst 0 d_Md_hasBy_52 (by decide) ?_
    refine x_istore [(6, .int 0), (0, .ref 65), (1, .int v1), (2, .int v2), (3, .int v3), (4, .int v4), (5, .int v5)] d_Md_hasBy_53 (Nat.le_of_ble_eq_true rfl) rfl ?_
    refine x_aload_n 1 d_Md_hasBy_55 rfl rfl ?_
    refine x_iconst 5 d_Md_hasBy_56 (by decide) ?_
    obtain ⟨p2, e3, h⟩ := xbind h
    refine x_callV0 e_Md_295 sh_65 rfl (t_Md_hasClause 5 V L _ e3) rfl rfl rfl (Nat.le_of_ble_eq_true rfl) (xfit_of (by omega) (Nat.le_of_ble_eq_true rfl)) (Nat.zero_le _) (Nat.zero_le _) d_Md_hasBy_57 ?_
    refine x_if_eq 111 d_Md_hasBy_60 (by decide) (fun c4 => ?_) (fun c4 => ?_)
    · replace h := xpos c4 h
      refine x_pick [1, 2, 5, 0] rfl ?_
      exact tb_Md_hasBy_111 res v1 v4 0 V L h
    · replace h := xneg c4 h
      refine x_aload_n 1 d_Md_hasBy_63 rfl rfl ?_
      refine x_getP (q := 82) f_Md_66 sh_65 rfl d_Md_hasBy_64 ?_
      refine x_iconst 0 d_Md_hasBy_67 (by decide) ?_
      refine x_iload_n 3 d_Md_hasBy_68 rfl rfl ?_
      refine x_iastoreC 0 sh_82 (by decide) (by decide) d_Md_hasBy_69 ?_
      refine x_aload_n 1 d_Md_hasBy_70 rfl rfl ?_
      refine x_getP (q := 82) f_Md_66 sh_65 rfl d_Md_hasBy_71 ?_
      refine x_iconst 1 d_Md_hasBy_74 (by decide) ?_
      refine x_iload_n 2 d_Md_hasBy_75 rfl rfl ?_
      refine x_iastoreC 1 sh_82 (by decide) (by decide) d_Md_hasBy_76 ?_
      refine x_aload_n 1 d_Md_hasBy_77 rfl rfl ?_
      refine x_getP (q := 82) f_Md_66 sh_65 rfl d_Md_hasBy_78 ?_
      refine x_bipush 11 d_Md_hasBy_81 (by decide) ?_
      refine x_iload 5 d_Md_hasBy_83 rfl ?_
      refine x_iastoreC 11 sh_82 (by decide) (by decide) d_Md_hasBy_85 ?_
      refine x_aload_n 1 d_Md_hasBy_86 rfl rfl ?_
      refine x_getP (q := 82) f_Md_66 sh_65 rfl d_Md_hasBy_87 ?_
      refine x_bipush 12 d_Md_hasBy_90 (by decide) ?_
      refine x_iload 6 d_Md_hasBy_92 rfl ?_
      refine x_iastoreC 12 sh_82 (by decide) (by decide) d_Md_hasBy_94 ?_
      refine x_aload_n 1 d_Md_hasBy_95 rfl rfl ?_
      refine x_iconst 5 d_Md_hasBy_96 (by decide) ?_
      obtain ⟨p5, e6, h⟩ := xbind h
      refine x_callV0 e_Md_301 sh_65 rfl (t_Md_says 5 (x2 (x2 (x2 (x2 V 82 0 v2) 82 1 v1) 82 11 v4) 82 12 v5) L _ e6) rfl rfl rfl (Nat.le_of_ble_eq_true rfl) (xfit_of (by omega) (Nat.le_of_ble_eq_true rfl)) (Nat.zero_le _) (Nat.zero_le _) d_Md_hasBy_97 ?_
      refine x_sipush (-999) d_Md_hasBy_100 (by decide) ?_
      refine x_sipush 999 d_Md_hasBy_103 (by decide) ?_
      refine x_callS0 e_Md_322 (t_Md_held p5.1 (-999) 999 (x2 (x2 (x2 (x2 V 82 0 v2) 82 1 v1) 82 11 v4) 82 12 v5) p5.2 _ rfl) rfl rfl rfl (Nat.le_of_ble_eq_true rfl) (xfit_of (by omega) (Nat.le_of_ble_eq_true rfl)) (Nat.zero_le _) (Nat.zero_le _) d_Md_hasBy_106 ?_
      refine x_istore [(6, .int (f_Md_held p5.1 (-999) 999)), (0, .ref 65), (1, .int v1), (2, .int v2), (3, .int v3), (4, .int v4), (5, .int v5)] d_Md_hasBy_109 (Nat.le_of_ble_eq_true rfl) rfl ?_
      refine x_pick [1, 2, 5, 0] rfl ?_
      exact tb_Md_hasBy_111 res v1 v4 (f_Md_held p5.1 (-999) 999) (x2 (x2 (x2 (x2 V 82 0 v2) 82 1 v1) 82 11 v4) 82 12 v5) p5.2 h
  · replace h := xneg c1 h
    refine x_iload 5 d_Md_hasBy_19 rfl ?_
    refine x_iload 6 d_Md_hasBy_21 rfl ?_
    refine x_iload_n 1 d_Md_hasBy_23 rfl rfl ?_
    refine x_icmp_eq 42 d_Md_hasBy_24 (by decide) (fun c8 => ?_) (fun c8 => ?_)
    · replace h := xpos c8 h
      refine x_iconst 0 d_Md_hasBy_42 (by decide) ?_
      refine x_iadd d_Md_hasBy_43 ?_
      refine x_istore [(5, .int (v5 + 0)), (0, .ref 65), (1, .int v1), (2, .int v2), (3, .int v3), (4, .int v4), (6, .int v6)] d_Md_hasBy_44 (Nat.le_of_ble_eq_true rfl) rfl ?_
      refine x_iinc 6 1 [(6, .int (v6 + 1)), (5, .int (v5 + 0)), (0, .ref 65), (1, .int v1), (2, .int v2), (3, .int v3), (4, .int v4)] d_Md_hasBy_46 rfl (by decide) (Nat.le_of_ble_eq_true rfl) rfl ?_
      refine x_goto 13 d_Md_hasBy_49 (by decide) ?_
      refine x_pick [2, 3, 4, 5, 6, 1, 0] rfl ?_
      exact hk13 v1 v2 v3 v4 (v5 + 0) (v6 + 1) V L h
    · replace h := xneg c8 h
      refine x_iload_n 3 d_Md_hasBy_27 rfl rfl ?_
      refine x_iload 6 d_Md_hasBy_28 rfl ?_
      refine x_ishr d_Md_hasBy_30 ?_
      refine x_iconst 1 d_Md_hasBy_31 (by decide) ?_
      refine x_iand d_Md_hasBy_32 ?_
      refine x_iload 4 d_Md_hasBy_33 rfl ?_
      refine x_icmp_eq 42 d_Md_hasBy_35 (by decide) (fun c9 => ?_) (fun c9 => ?_)
      · replace h := xpos c9 h
        refine x_iconst 0 d_Md_hasBy_42 (by decide) ?_
        refine x_iadd d_Md_hasBy_43 ?_
        refine x_istore [(5, .int (v5 + 0)), (0, .ref 65), (1, .int v1), (2, .int v2), (3, .int v3), (4, .int v4), (6, .int v6)] d_Md_hasBy_44 (Nat.le_of_ble_eq_true rfl) rfl ?_
        refine x_iinc 6 1 [(6, .int (v6 + 1)), (5, .int (v5 + 0)), (0, .ref 65), (1, .int v1), (2, .int v2), (3, .int v3), (4, .int v4)] d_Md_hasBy_46 rfl (by decide) (Nat.le_of_ble_eq_true rfl) rfl ?_
        refine x_goto 13 d_Md_hasBy_49 (by decide) ?_
        refine x_pick [2, 3, 4, 5, 6, 1, 0] rfl ?_
        exact hk13 v1 v2 v3 v4 (v5 + 0) (v6 + 1) V L h
      · replace h := xneg c9 h
        refine x_iconst 1 d_Md_hasBy_38 (by decide) ?_
        refine x_goto 43 d_Md_hasBy_39 (by decide) ?_
        refine x_iadd d_Md_hasBy_43 ?_
        refine x_istore [(5, .int (v5 + 1)), (0, .ref 65), (1, .int v1), (2, .int v2), (3, .int v3), (4, .int v4), (6, .int v6)] d_Md_hasBy_44 (Nat.le_of_ble_eq_true rfl) rfl ?_
        refine x_iinc 6 1 [(6, .int (v6 + 1)), (5, .int (v5 + 1)), (0, .ref 65), (1, .int v1), (2, .int v2), (3, .int v3), (4, .int v4)] d_Md_hasBy_46 rfl (by decide) (Nat.le_of_ble_eq_true rfl) rfl ?_
        refine x_goto 13 d_Md_hasBy_49 (by decide) ?_
        refine x_pick [2, 3, 4, 5, 6, 1, 0] rfl ?_
        exact hk13 v1 v2 v3 v4 (v5 + 1) (v6 + 1) V L h
def g_Md_hasBy_13  : Nat → Int32 → Int32 → Int32 → Int32 → Int32 → Int32 → xV → xL → Option (Int32 × xV × xL)
  | 0, _, _, _, _, _, _, _, _ => none
  | n + 1, v1, v2, v3, v4, v5, v6, V, L => b_Md_hasBy_13 (g_Md_hasBy_13  n) v1 v2 v3 v4 v5 v6 V L
theorem tg_Md_hasBy_13  (res : Int32 × xV × xL)  : ∀ (n : Nat) (v1 : Int32) (v2 : Int32) (v3 : Int32) (v4 : Int32) (v5 : Int32) (v6 : Int32) (V : xV) (L : xL), g_Md_hasBy_13  n v1 v2 v3 v4 v5 v6 V L = some res → X M_Md_hasBy (xRm (5) M_Md_hasBy) (xZ M_Md_hasBy (fun o h' => o = some (.int res.1) ∧ h' = (SH, res.2.1, res.2.2))) SH V L 0 0 13 [(0, .ref 65), (1, .int v1), (2, .int v2), (3, .int v3), (4, .int v4), (5, .int v5), (6, .int v6)] []
  | 0, _, _, _, _, _, _, _, _, h => by cases h
  | n + 1, v1, v2, v3, v4, v5, v6, V, L, h => tb_Md_hasBy_13 (g_Md_hasBy_13  n) res (tg_Md_hasBy_13 res n) v1 v2 v3 v4 v5 v6 V L h
def f_Md_hasBy (a1 : Int32) (a2 : Int32) (a3 : Int32) (V : xV) (L : xL) : Option (Int32 × xV × xL) := g_Md_hasBy_13 2000 a1 a2 a3 ((a3 >>> (a1 &&& 31)) &&& 1) 0 0 V L
theorem t_Md_hasBy (a1 : Int32) (a2 : Int32) (a3 : Int32) (V : xV) (L : xL) (res : Int32 × xV × xL) (h : f_Md_hasBy a1 a2 a3 V L = some res) : xRuns (5) M_Md_hasBy [.ref 65, .int a1, .int a2, .int a3] (SH, V, L) (fun o h' => o = some (.int res.1) ∧ h' = (SH, res.2.1, res.2.2)) := by
  refine xRuns_of (by decide) (Nat.le_of_ble_eq_true rfl) ?_
  unfold f_Md_hasBy at h
  show X M_Md_hasBy (xRm (5) M_Md_hasBy) (xZ M_Md_hasBy (fun o h' => o = some (.int res.1) ∧ h' = (SH, res.2.1, res.2.2))) SH V L 0 0 0 [(0, .ref 65), (1, .int a1), (2, .int a2), (3, .int a3)] []
  refine x_iload_n 3 d_Md_hasBy_0 rfl rfl ?_
  refine x_iload_n 1 d_Md_hasBy_1 rfl rfl ?_
  refine x_ishr d_Md_hasBy_2 ?_
  refine x_iconst 1 d_Md_hasBy_3 (by decide) ?_
  refine x_iand d_Md_hasBy_4 ?_
  refine x_istore [(4, .int ((a3 >>> (a1 &&& 31)) &&& 1)), (0, .ref 65), (1, .int a1), (2, .int a2), (3, .int a3)] d_Md_hasBy_5 (Nat.le_of_ble_eq_true rfl) rfl ?_
  refine x_iconst 0 d_Md_hasBy_7 (by decide) ?_
  refine x_istore [(5, .int 0), (4, .int ((a3 >>> (a1 &&& 31)) &&& 1)), (0, .ref 65), (1, .int a1), (2, .int a2), (3, .int a3)] d_Md_hasBy_8 (Nat.le_of_ble_eq_true rfl) rfl ?_
  refine x_iconst 0 d_Md_hasBy_10 (by decide) ?_
  refine x_istore [(6, .int 0), (5, .int 0), (4, .int ((a3 >>> (a1 &&& 31)) &&& 1)), (0, .ref 65), (1, .int a1), (2, .int a2), (3, .int a3)] d_Md_hasBy_11 (Nat.le_of_ble_eq_true rfl) rfl ?_
  refine x_pick [3, 4, 5, 6, 2, 1, 0] rfl ?_
  exact tg_Md_hasBy_13 res _ a1 a2 a3 ((a3 >>> (a1 &&& 31)) &&& 1) 0 0 V L h
-- Md_even
def b_Md_even_63 (k50 : Int32 → Int32 → Int32 → Int32 → xV → xL → Option (Int32 × xV × xL)) (k63 : Int32 → Int32 → Int32 → Int32 → Int32 → Int32 → xV → xL → Option (Int32 × xV × xL)) (v1 : Int32) (v2 : Int32) (v3 : Int32) (v4 : Int32) (v5 : Int32) (v6 : Int32) (V : xV) (L : xL) : Option (Int32 × xV × xL) := (if 4 ≤ v6 then (if v5 = 0 then k50 v1 v2 v3 (v4 + 1) V L else (if ¬ v3 = v2 then k50 v1 v2 (v3 + 1) (v4 + 1) V L else some (v4, V, L))) else (if v5 = 0 then k63 v1 v2 v3 v4 0 (v6 + 1) V L else (Option.bind (f_Md_hasBy v6 v1 (v4 ^^^ (1 <<< (v6 &&& 31))) V L) fun p14 => (Option.bind (f_Md_hasBy v6 v1 v4 p14.2.1 p14.2.2) fun p16 => (if p16.1 < p14.1 then k63 v1 v2 v3 v4 0 (v6 + 1) p16.2.1 p16.2.2 else k63 v1 v2 v3 v4 1 (v6 + 1) p16.2.1 p16.2.2)))))
theorem tb_Md_even_63 (k50 : Int32 → Int32 → Int32 → Int32 → xV → xL → Option (Int32 × xV × xL)) (k63 : Int32 → Int32 → Int32 → Int32 → Int32 → Int32 → xV → xL → Option (Int32 × xV × xL)) (res : Int32 × xV × xL) (hk50 : ∀ (v1 : Int32) (v2 : Int32) (v3 : Int32) (v4 : Int32) (V : xV) (L : xL), k50 v1 v2 v3 v4 V L = some res → X M_Md_even (xRm (11) M_Md_even) (xZ M_Md_even (fun o h' => o = some (.int res.1) ∧ h' = (SH, res.2.1, res.2.2))) SH V L 0 0 50 [(0, .ref 65), (1, .int v1), (2, .int v2), (3, .int v3), (4, .int v4)] []) (hk63 : ∀ (v1 : Int32) (v2 : Int32) (v3 : Int32) (v4 : Int32) (v5 : Int32) (v6 : Int32) (V : xV) (L : xL), k63 v1 v2 v3 v4 v5 v6 V L = some res → X M_Md_even (xRm (11) M_Md_even) (xZ M_Md_even (fun o h' => o = some (.int res.1) ∧ h' = (SH, res.2.1, res.2.2))) SH V L 0 0 63 [(0, .ref 65), (1, .int v1), (2, .int v2), (3, .int v3), (4, .int v4), (5, .int v5), (6, .int v6)] []) (v1 : Int32) (v2 : Int32) (v3 : Int32) (v4 : Int32) (v5 : Int32) (v6 : Int32) (V : xV) (L : xL) (h : b_Md_even_63 k50 k63 v1 v2 v3 v4 v5 v6 V L = some res) : X M_Md_even (xRm (11) M_Md_even) (xZ M_Md_even (fun o h' => o = some (.int res.1) ∧ h' = (SH, res.2.1, res.2.2))) SH V L 0 0 63 [(0, .ref 65), (1, .int v1), (2, .int v2), (3, .int v3), (4, .int v4), (5, .int v5), (6, .int v6)] [] := by
  unfold b_Md_even_63 at h
  refine x_iload 6 d_Md_even_63 rfl ?_
  refine x_iconst 4 d_Md_even_65 (by decide) ?_
  refine x_icmp_ge 113 d_Md_even_66 (by decide) (fun c10 => ?_) (fun c10 => ?_)
  · replace h := xpos c10 h
    refine x_iload 5 d_Md_even_113 rfl ?_
    refine x_if_eq 129 d_Md_even_115 (by decide) (fun c11 => ?_) (fun c11 => ?_)
    · replace h := xpos c11 h
      refine x_iinc 4 1 [(4, .int (v4 + 1)), (0, .ref 65), (1, .int v1), (2, .int v2), (3, .int v3), (5, .int v5), (6, .int v6)] d_Md_even_129 rfl (by decide) (Nat.le_of_ble_eq_true rfl) rfl ?_
      refine x_goto 50 d_Md_even_132 (by decide) ?_
      refine x_pick [1, 2, 3, 4, 0] rfl ?_
      exact hk50 v1 v2 v3 (v4 + 1) V L h
    · replace h := xneg c11 h
      refine x_iload_n 3 d_Md_even_118 rfl rfl ?_
      refine x_iload_n 2 d_Md_even_119 rfl rfl ?_
      refine x_icmp_ne 126 d_Md_even_120 (by decide) (fun c12 => ?_) (fun c12 => ?_)
      · replace h := xpos c12 h
        refine x_iinc 3 1 [(3, .int (v3 + 1)), (0, .ref 65), (1, .int v1), (2, .int v2), (4, .int v4), (5, .int v5), (6, .int v6)] d_Md_even_126 rfl (by decide) (Nat.le_of_ble_eq_true rfl) rfl ?_
        refine x_iinc 4 1 [(4, .int (v4 + 1)), (3, .int (v3 + 1)), (0, .ref 65), (1, .int v1), (2, .int v2), (5, .int v5), (6, .int v6)] d_Md_even_129 rfl (by decide) (Nat.le_of_ble_eq_true rfl) rfl ?_
        refine x_goto 50 d_Md_even_132 (by decide) ?_
        refine x_pick [2, 3, 4, 1, 0] rfl ?_
        exact hk50 v1 v2 (v3 + 1) (v4 + 1) V L h
      · replace h := xneg c12 h
        refine x_iload 4 d_Md_even_123 rfl ?_
        obtain rfl := Option.some.inj h
        exact x_ireturn rfl d_Md_even_125 (Nat.le_refl _) (Nat.le_refl _) ⟨rfl, rfl⟩
  · replace h := xneg c10 h
    refine x_iload 5 d_Md_even_69 rfl ?_
    refine x_if_eq 104 d_Md_even_71 (by decide) (fun c13 => ?_) (fun c13 => ?_)
    · replace h := xpos c13 h
      refine x_iconst 0 d_Md_even_104 (by decide) ?_
      refine x_istore [(5, .int 0), (0, .ref 65), (1, .int v1), (2, .int v2), (3, .int v3), (4, .int v4), (6, .int v6)] d_Md_even_105 (Nat.le_of_ble_eq_true rfl) rfl ?_
      refine x_iinc 6 1 [(6, .int (v6 + 1)), (5, .int 0), (0, .ref 65), (1, .int v1), (2, .int v2), (3, .int v3), (4, .int v4)] d_Md_even_107 rfl (by decide) (Nat.le_of_ble_eq_true rfl) rfl ?_
      refine x_goto 63 d_Md_even_110 (by decide) ?_
      refine x_pick [2, 3, 4, 5, 6, 1, 0] rfl ?_
      exact hk63 v1 v2 v3 v4 0 (v6 + 1) V L h
    · replace h := xneg c13 h
      refine x_aload_n 0 d_Md_even_74 rfl rfl ?_
      refine x_iload 6 d_Md_even_75 rfl ?_
      refine x_iload_n 1 d_Md_even_77 rfl rfl ?_
      refine x_iload 4 d_Md_even_78 rfl ?_
      refine x_iconst 1 d_Md_even_80 (by decide) ?_
      refine x_iload 6 d_Md_even_81 rfl ?_
      refine x_ishl d_Md_even_83 ?_
      refine x_ixor d_Md_even_84 ?_
      obtain ⟨p14, e15, h⟩ := xbind h
      refine x_callV0 e_Md_362 sh_65 rfl (t_Md_hasBy v6 v1 (v4 ^^^ (1 <<< (v6 &&& 31))) V L _ e15) rfl rfl rfl (Nat.le_of_ble_eq_true rfl) (xfit_of (by omega) (Nat.le_of_ble_eq_true rfl)) (Nat.zero_le _) (Nat.zero_le _) d_Md_even_85 ?_
      refine x_aload_n 0 d_Md_even_88 rfl rfl ?_
      refine x_iload 6 d_Md_even_89 rfl ?_
      refine x_iload_n 1 d_Md_even_91 rfl rfl ?_
      refine x_iload 4 d_Md_even_92 rfl ?_
      obtain ⟨p16, e17, h⟩ := xbind h
      refine x_callV0 e_Md_362 sh_65 rfl (t_Md_hasBy v6 v1 v4 p14.2.1 p14.2.2 _ e17) rfl rfl rfl (Nat.le_of_ble_eq_true rfl) (xfit_of (by omega) (Nat.le_of_ble_eq_true rfl)) (Nat.zero_le _) (Nat.zero_le _) d_Md_even_94 ?_
      refine x_icmp_gt 104 d_Md_even_97 (by decide) (fun c18 => ?_) (fun c18 => ?_)
      · replace h := xpos c18 h
        refine x_iconst 0 d_Md_even_104 (by decide) ?_
        refine x_istore [(5, .int 0), (0, .ref 65), (1, .int v1), (2, .int v2), (3, .int v3), (4, .int v4), (6, .int v6)] d_Md_even_105 (Nat.le_of_ble_eq_true rfl) rfl ?_
        refine x_iinc 6 1 [(6, .int (v6 + 1)), (5, .int 0), (0, .ref 65), (1, .int v1), (2, .int v2), (3, .int v3), (4, .int v4)] d_Md_even_107 rfl (by decide) (Nat.le_of_ble_eq_true rfl) rfl ?_
        refine x_goto 63 d_Md_even_110 (by decide) ?_
        refine x_pick [2, 3, 4, 5, 6, 1, 0] rfl ?_
        exact hk63 v1 v2 v3 v4 0 (v6 + 1) p16.2.1 p16.2.2 h
      · replace h := xneg c18 h
        refine x_iconst 1 d_Md_even_100 (by decide) ?_
        refine x_goto 105 d_Md_even_101 (by decide) ?_
        refine x_istore [(5, .int 1), (0, .ref 65), (1, .int v1), (2, .int v2), (3, .int v3), (4, .int v4), (6, .int v6)] d_Md_even_105 (Nat.le_of_ble_eq_true rfl) rfl ?_
        refine x_iinc 6 1 [(6, .int (v6 + 1)), (5, .int 1), (0, .ref 65), (1, .int v1), (2, .int v2), (3, .int v3), (4, .int v4)] d_Md_even_107 rfl (by decide) (Nat.le_of_ble_eq_true rfl) rfl ?_
        refine x_goto 63 d_Md_even_110 (by decide) ?_
        refine x_pick [2, 3, 4, 5, 6, 1, 0] rfl ?_
        exact hk63 v1 v2 v3 v4 1 (v6 + 1) p16.2.1 p16.2.2 h
def g_Md_even_63 (k50 : Int32 → Int32 → Int32 → Int32 → xV → xL → Option (Int32 × xV × xL)) : Nat → Int32 → Int32 → Int32 → Int32 → Int32 → Int32 → xV → xL → Option (Int32 × xV × xL)
  | 0, _, _, _, _, _, _, _, _ => none
  | n + 1, v1, v2, v3, v4, v5, v6, V, L => b_Md_even_63 k50 (g_Md_even_63 k50 n) v1 v2 v3 v4 v5 v6 V L
theorem tg_Md_even_63 (k50 : Int32 → Int32 → Int32 → Int32 → xV → xL → Option (Int32 × xV × xL)) (res : Int32 × xV × xL) (hk50 : ∀ (v1 : Int32) (v2 : Int32) (v3 : Int32) (v4 : Int32) (V : xV) (L : xL), k50 v1 v2 v3 v4 V L = some res → X M_Md_even (xRm (11) M_Md_even) (xZ M_Md_even (fun o h' => o = some (.int res.1) ∧ h' = (SH, res.2.1, res.2.2))) SH V L 0 0 50 [(0, .ref 65), (1, .int v1), (2, .int v2), (3, .int v3), (4, .int v4)] []) : ∀ (n : Nat) (v1 : Int32) (v2 : Int32) (v3 : Int32) (v4 : Int32) (v5 : Int32) (v6 : Int32) (V : xV) (L : xL), g_Md_even_63 k50 n v1 v2 v3 v4 v5 v6 V L = some res → X M_Md_even (xRm (11) M_Md_even) (xZ M_Md_even (fun o h' => o = some (.int res.1) ∧ h' = (SH, res.2.1, res.2.2))) SH V L 0 0 63 [(0, .ref 65), (1, .int v1), (2, .int v2), (3, .int v3), (4, .int v4), (5, .int v5), (6, .int v6)] []
  | 0, _, _, _, _, _, _, _, _, h => by cases h
  | n + 1, v1, v2, v3, v4, v5, v6, V, L, h => tb_Md_even_63 k50 (g_Md_even_63 k50 n) res hk50 (tg_Md_even_63 k50 res hk50 n) v1 v2 v3 v4 v5 v6 V L h
def b_Md_even_50 (k50 : Int32 → Int32 → Int32 → Int32 → xV → xL → Option (Int32 × xV × xL)) (v1 : Int32) (v2 : Int32) (v3 : Int32) (v4 : Int32) (V : xV) (L : xL) : Option (Int32 × xV × xL) := (if 16 ≤ v4 then (if ¬ v2 = (-1) then some ((-1), V, L) else some (v3, V, L)) else g_Md_even_63 k50 2000 v1 v2 v3 v4 1 0 V L)
theorem tb_Md_even_50 (k50 : Int32 → Int32 → Int32 → Int32 → xV → xL → Option (Int32 × xV × xL)) (res : Int32 × xV × xL) (hk50 : ∀ (v1 : Int32) (v2 : Int32) (v3 : Int32) (v4 : Int32) (V : xV) (L : xL), k50 v1 v2 v3 v4 V L = some res → X M_Md_even (xRm (11) M_Md_even) (xZ M_Md_even (fun o h' => o = some (.int res.1) ∧ h' = (SH, res.2.1, res.2.2))) SH V L 0 0 50 [(0, .ref 65), (1, .int v1), (2, .int v2), (3, .int v3), (4, .int v4)] []) (v1 : Int32) (v2 : Int32) (v3 : Int32) (v4 : Int32) (V : xV) (L : xL) (h : b_Md_even_50 k50 v1 v2 v3 v4 V L = some res) : X M_Md_even (xRm (11) M_Md_even) (xZ M_Md_even (fun o h' => o = some (.int res.1) ∧ h' = (SH, res.2.1, res.2.2))) SH V L 0 0 50 [(0, .ref 65), (1, .int v1), (2, .int v2), (3, .int v3), (4, .int v4)] [] := by
  unfold b_Md_even_50 at h
  refine x_iload 4 d_Md_even_50 rfl ?_
  refine x_bipush 16 d_Md_even_52 (by decide) ?_
  refine x_icmp_ge 135 d_Md_even_54 (by decide) (fun c8 => ?_) (fun c8 => ?_)
  · replace h := xpos c8 h
    refine x_iload_n 2 d_Md_even_135 rfl rfl ?_
    refine x_iconst (-1) d_Md_even_136 (by decide) ?_
    refine x_icmp_ne 144 d_Md_even_137 (by decide) (fun c9 => ?_) (fun c9 => ?_)
    · replace h := xpos c9 h
      refine x_iconst (-1) d_Md_even_144 (by decide) ?_
      obtain rfl := Option.some.inj h
      exact x_ireturn rfl d_Md_even_145 (Nat.le_refl _) (Nat.le_refl _) ⟨rfl, rfl⟩
    · replace h := xneg c9 h
      refine x_iload_n 3 d_Md_even_140 rfl rfl ?_
      refine x_goto 145 d_Md_even_141 (by decide) ?_
      obtain rfl := Option.some.inj h
      exact x_ireturn rfl d_Md_even_145 (Nat.le_refl _) (Nat.le_refl _) ⟨rfl, rfl⟩
  · replace h := xneg c8 h
    refine x_iconst 1 d_Md_even_57 (by decide) ?_
    refine x_istore [(5, .int 1), (0, .ref 65), (1, .int v1), (2, .int v2), (3, .int v3), (4, .int v4)] d_Md_even_58 (Nat.le_of_ble_eq_true rfl) rfl ?_
    refine x_iconst 0 d_Md_even_60 (by decide) ?_
    refine x_istore [(6, .int 0), (5, .int 1), (0, .ref 65), (1, .int v1), (2, .int v2), (3, .int v3), (4, .int v4)] d_Md_even_61 (Nat.le_of_ble_eq_true rfl) rfl ?_
    refine x_pick [2, 3, 4, 5, 6, 1, 0] rfl ?_
    exact tg_Md_even_63 k50 res hk50 _ v1 v2 v3 v4 1 0 V L h
def g_Md_even_50  : Nat → Int32 → Int32 → Int32 → Int32 → xV → xL → Option (Int32 × xV × xL)
  | 0, _, _, _, _, _, _ => none
  | n + 1, v1, v2, v3, v4, V, L => b_Md_even_50 (g_Md_even_50  n) v1 v2 v3 v4 V L
theorem tg_Md_even_50  (res : Int32 × xV × xL)  : ∀ (n : Nat) (v1 : Int32) (v2 : Int32) (v3 : Int32) (v4 : Int32) (V : xV) (L : xL), g_Md_even_50  n v1 v2 v3 v4 V L = some res → X M_Md_even (xRm (11) M_Md_even) (xZ M_Md_even (fun o h' => o = some (.int res.1) ∧ h' = (SH, res.2.1, res.2.2))) SH V L 0 0 50 [(0, .ref 65), (1, .int v1), (2, .int v2), (3, .int v3), (4, .int v4)] []
  | 0, _, _, _, _, _, _, h => by cases h
  | n + 1, v1, v2, v3, v4, V, L, h => tb_Md_even_50 (g_Md_even_50  n) res (tg_Md_even_50 res n) v1 v2 v3 v4 V L h
def b_Md_even_16 (k16 : Int32 → Int32 → Int32 → xV → xL → Option (Int32 × xV × xL)) (v1 : Int32) (v2 : Int32) (v3 : Int32) (V : xV) (L : xL) : Option (Int32 × xV × xL) := (if 8 ≤ v3 then g_Md_even_50 2000 v1 v2 0 0 V L else (Option.bind (f_Md_gainBy (v3 / 2) v1 (xrem v3 2) V L) fun p5 => (if xI v3 20 = true then k16 v1 v2 (v3 + 1) (x2 p5.2.1 85 v3.toNatClampNeg p5.1) p5.2.2 else none)))
theorem tb_Md_even_16 (k16 : Int32 → Int32 → Int32 → xV → xL → Option (Int32 × xV × xL)) (res : Int32 × xV × xL) (hk16 : ∀ (v1 : Int32) (v2 : Int32) (v3 : Int32) (V : xV) (L : xL), k16 v1 v2 v3 V L = some res → X M_Md_even (xRm (11) M_Md_even) (xZ M_Md_even (fun o h' => o = some (.int res.1) ∧ h' = (SH, res.2.1, res.2.2))) SH V L 0 0 16 [(0, .ref 65), (1, .int v1), (2, .int v2), (3, .int v3)] []) (v1 : Int32) (v2 : Int32) (v3 : Int32) (V : xV) (L : xL) (h : b_Md_even_16 k16 v1 v2 v3 V L = some res) : X M_Md_even (xRm (11) M_Md_even) (xZ M_Md_even (fun o h' => o = some (.int res.1) ∧ h' = (SH, res.2.1, res.2.2))) SH V L 0 0 16 [(0, .ref 65), (1, .int v1), (2, .int v2), (3, .int v3)] [] := by
  unfold b_Md_even_16 at h
  refine x_iload_n 3 d_Md_even_16 rfl rfl ?_
  refine x_bipush 8 d_Md_even_17 (by decide) ?_
  refine x_icmp_ge 45 d_Md_even_19 (by decide) (fun c4 => ?_) (fun c4 => ?_)
  · replace h := xpos c4 h
    refine x_iconst 0 d_Md_even_45 (by decide) ?_
    refine x_istore_n [(3, .int 0), (0, .ref 65), (1, .int v1), (2, .int v2)] d_Md_even_46 rfl (Nat.le_of_ble_eq_true rfl) rfl ?_
    refine x_iconst 0 d_Md_even_47 (by decide) ?_
    refine x_istore [(4, .int 0), (3, .int 0), (0, .ref 65), (1, .int v1), (2, .int v2)] d_Md_even_48 (Nat.le_of_ble_eq_true rfl) rfl ?_
    refine x_pick [2, 3, 4, 1, 0] rfl ?_
    exact tg_Md_even_50 res _ v1 v2 0 0 V L h
  · replace h := xneg c4 h
    refine x_aload_n 0 d_Md_even_22 rfl rfl ?_
    refine x_getP (q := 85) f_Md_79 sh_65 rfl d_Md_even_23 ?_
    refine x_iload_n 3 d_Md_even_26 rfl rfl ?_
    refine x_aload_n 0 d_Md_even_27 rfl rfl ?_
    refine x_iload_n 3 d_Md_even_28 rfl rfl ?_
    refine x_iconst 2 d_Md_even_29 (by decide) ?_
    refine x_idiv d_Md_even_30 (by decide) ?_
    refine x_iload_n 1 d_Md_even_31 rfl rfl ?_
    refine x_iload_n 3 d_Md_even_32 rfl rfl ?_
    refine x_iconst 2 d_Md_even_33 (by decide) ?_
    refine x_irem2 d_Md_even_34 (by decide) ?_
    obtain ⟨p5, e6, h⟩ := xbind h
    refine x_callV0 e_Md_352 sh_65 rfl (t_Md_gainBy (v3 / 2) v1 (xrem v3 2) V L _ e6) rfl rfl rfl (Nat.le_of_ble_eq_true rfl) (xfit_of (by omega) (Nat.le_of_ble_eq_true rfl)) (Nat.zero_le _) (Nat.zero_le _) d_Md_even_35 ?_
    obtain ⟨c7, h⟩ := xguard h
    refine x_iastore sh_85 c7 d_Md_even_38 ?_
    refine x_iinc 3 1 [(3, .int (v3 + 1)), (0, .ref 65), (1, .int v1), (2, .int v2)] d_Md_even_39 rfl (by decide) (Nat.le_of_ble_eq_true rfl) rfl ?_
    refine x_goto 16 d_Md_even_42 (by decide) ?_
    refine x_pick [1, 2, 3, 0] rfl ?_
    exact hk16 v1 v2 (v3 + 1) (x2 p5.2.1 85 v3.toNatClampNeg p5.1) p5.2.2 h
def g_Md_even_16  : Nat → Int32 → Int32 → Int32 → xV → xL → Option (Int32 × xV × xL)
  | 0, _, _, _, _, _ => none
  | n + 1, v1, v2, v3, V, L => b_Md_even_16 (g_Md_even_16  n) v1 v2 v3 V L
theorem tg_Md_even_16  (res : Int32 × xV × xL)  : ∀ (n : Nat) (v1 : Int32) (v2 : Int32) (v3 : Int32) (V : xV) (L : xL), g_Md_even_16  n v1 v2 v3 V L = some res → X M_Md_even (xRm (11) M_Md_even) (xZ M_Md_even (fun o h' => o = some (.int res.1) ∧ h' = (SH, res.2.1, res.2.2))) SH V L 0 0 16 [(0, .ref 65), (1, .int v1), (2, .int v2), (3, .int v3)] []
  | 0, _, _, _, _, _, h => by cases h
  | n + 1, v1, v2, v3, V, L, h => tb_Md_even_16 (g_Md_even_16  n) res (tg_Md_even_16 res n) v1 v2 v3 V L h
def f_Md_even (a1 : Int32) (a2 : Int32) (V : xV) (L : xL) : Option (Int32 × xV × xL) := (if (f_Md_isDay a1) = 0 then some ((-1), V, L) else (if (-1) ≤ a2 then g_Md_even_16 2000 a1 a2 0 V L else some ((-1), V, L)))
theorem t_Md_even (a1 : Int32) (a2 : Int32) (V : xV) (L : xL) (res : Int32 × xV × xL) (h : f_Md_even a1 a2 V L = some res) : xRuns (11) M_Md_even [.ref 65, .int a1, .int a2] (SH, V, L) (fun o h' => o = some (.int res.1) ∧ h' = (SH, res.2.1, res.2.2)) := by
  refine xRuns_of (by decide) (Nat.le_of_ble_eq_true rfl) ?_
  unfold f_Md_even at h
  show X M_Md_even (xRm (11) M_Md_even) (xZ M_Md_even (fun o h' => o = some (.int res.1) ∧ h' = (SH, res.2.1, res.2.2))) SH V L 0 0 0 [(0, .ref 65), (1, .int a1), (2, .int a2)] []
  refine x_iload_n 1 d_Md_even_0 rfl rfl ?_
  refine x_callS0 e_Md_97 (t_Md_isDay a1 V L _ rfl) rfl rfl rfl (Nat.le_of_ble_eq_true rfl) (xfit_of (by omega) (Nat.le_of_ble_eq_true rfl)) (Nat.zero_le _) (Nat.zero_le _) d_Md_even_1 ?_
  refine x_if_eq 12 d_Md_even_4 (by decide) (fun c2 => ?_) (fun c2 => ?_)
  · replace h := xpos c2 h
    refine x_iconst (-1) d_Md_even_12 (by decide) ?_
    obtain rfl := Option.some.inj h
    exact x_ireturn rfl d_Md_even_13 (Nat.le_refl _) (Nat.le_refl _) ⟨rfl, rfl⟩
  · replace h := xneg c2 h
    refine x_iload_n 2 d_Md_even_7 rfl rfl ?_
    refine x_iconst (-1) d_Md_even_8 (by decide) ?_
    refine x_icmp_ge 14 d_Md_even_9 (by decide) (fun c3 => ?_) (fun c3 => ?_)
    · replace h := xpos c3 h
      refine x_iconst 0 d_Md_even_14 (by decide) ?_
      refine x_istore_n [(3, .int 0), (0, .ref 65), (1, .int a1), (2, .int a2)] d_Md_even_15 rfl (Nat.le_of_ble_eq_true rfl) rfl ?_
      refine x_pick [1, 2, 3, 0] rfl ?_
      exact tg_Md_even_16 res _ a1 a2 0 V L h
    · replace h := xneg c3 h
      refine x_iconst (-1) d_Md_even_12 (by decide) ?_
      obtain rfl := Option.some.inj h
      exact x_ireturn rfl d_Md_even_13 (Nat.le_refl _) (Nat.le_refl _) ⟨rfl, rfl⟩
-- Md_flood
def b_Md_flood_23 (V : xV) (k11 : Int32 → Int32 → Int32 → Option (Int32)) (k23 : Int32 → Int32 → Int32 → Int32 → Int32 → Option (Int32)) (v1 : Int32) (v2 : Int32) (v3 : Int32) (v4 : Int32) (v5 : Int32) : Option (Int32) := (if 4 ≤ v5 then (if ¬ v4 = 4 then k11 v1 v2 (v3 + 1) else (if xI (10 + v3) 270 = true then (if 5 ≤ (V 66 (10 + v3).toNatClampNeg) then k11 v1 v2 (v3 + 1) else (if ¬ v2 = v1 then k11 v1 (v2 + 1) (v3 + 1) else some v3)) else none)) else (Option.bind (f_Md_decreeOf v3 v5 V) fun p9 => k23 v1 v2 v3 (v4 + p9) (v5 + 1)))
theorem tb_Md_flood_23 {V : xV} {L : xL} (k11 : Int32 → Int32 → Int32 → Option (Int32)) (k23 : Int32 → Int32 → Int32 → Int32 → Int32 → Option (Int32)) (res : Int32) (hk11 : ∀ (v1 : Int32) (v2 : Int32) (v3 : Int32), k11 v1 v2 v3 = some res → X M_Md_flood (xRm (2) M_Md_flood) (xZ M_Md_flood (fun o h' => o = some (.int res) ∧ h' = (SH, V, L))) SH V L 0 0 11 [(0, .ref 65), (1, .int v1), (2, .int v2), (3, .int v3)] []) (hk23 : ∀ (v1 : Int32) (v2 : Int32) (v3 : Int32) (v4 : Int32) (v5 : Int32), k23 v1 v2 v3 v4 v5 = some res → X M_Md_flood (xRm (2) M_Md_flood) (xZ M_Md_flood (fun o h' => o = some (.int res) ∧ h' = (SH, V, L))) SH V L 0 0 23 [(0, .ref 65), (1, .int v1), (2, .int v2), (3, .int v3), (4, .int v4), (5, .int v5)] []) (v1 : Int32) (v2 : Int32) (v3 : Int32) (v4 : Int32) (v5 : Int32) (h : b_Md_flood_23 V k11 k23 v1 v2 v3 v4 v5 = some res) : X M_Md_flood (xRm (2) M_Md_flood) (xZ M_Md_flood (fun o h' => o = some (.int res) ∧ h' = (SH, V, L))) SH V L 0 0 23 [(0, .ref 65), (1, .int v1), (2, .int v2), (3, .int v3), (4, .int v4), (5, .int v5)] [] := by
  unfold b_Md_flood_23 at h
  refine x_iload 5 d_Md_flood_23 rfl ?_
  refine x_iconst 4 d_Md_flood_25 (by decide) ?_
  refine x_icmp_ge 47 d_Md_flood_26 (by decide) (fun c4 => ?_) (fun c4 => ?_)
  · replace h := xpos c4 h
    refine x_iload 4 d_Md_flood_47 rfl ?_
    refine x_iconst 4 d_Md_flood_49 (by decide) ?_
    refine x_icmp_ne 76 d_Md_flood_50 (by decide) (fun c5 => ?_) (fun c5 => ?_)
    · replace h := xpos c5 h
      refine x_iinc 3 1 [(3, .int (v3 + 1)), (0, .ref 65), (1, .int v1), (2, .int v2), (4, .int v4), (5, .int v5)] d_Md_flood_76 rfl (by decide) (Nat.le_of_ble_eq_true rfl) rfl ?_
      refine x_goto 11 d_Md_flood_79 (by decide) ?_
      refine x_pick [1, 2, 3, 0] rfl ?_
      exact hk11 v1 v2 (v3 + 1) h
    · replace h := xneg c5 h
      refine x_aload_n 0 d_Md_flood_53 rfl rfl ?_
      refine x_getP (q := 66) f_Md_7 sh_65 rfl d_Md_flood_54 ?_
      refine x_bipush 10 d_Md_flood_57 (by decide) ?_
      refine x_iload_n 3 d_Md_flood_59 rfl rfl ?_
      refine x_iadd d_Md_flood_60 ?_
      obtain ⟨c6, h⟩ := xguard h
      refine x_iaload sh_66 c6 d_Md_flood_61 ?_
      refine x_iconst 5 d_Md_flood_62 (by decide) ?_
      refine x_icmp_ge 76 d_Md_flood_63 (by decide) (fun c7 => ?_) (fun c7 => ?_)
      · replace h := xpos c7 h
        refine x_iinc 3 1 [(3, .int (v3 + 1)), (0, .ref 65), (1, .int v1), (2, .int v2), (4, .int v4), (5, .int v5)] d_Md_flood_76 rfl (by decide) (Nat.le_of_ble_eq_true rfl) rfl ?_
        refine x_goto 11 d_Md_flood_79 (by decide) ?_
        refine x_pick [1, 2, 3, 0] rfl ?_
        exact hk11 v1 v2 (v3 + 1) h
      · replace h := xneg c7 h
        refine x_iload_n 2 d_Md_flood_66 rfl rfl ?_
        refine x_iload_n 1 d_Md_flood_67 rfl rfl ?_
        refine x_icmp_ne 73 d_Md_flood_68 (by decide) (fun c8 => ?_) (fun c8 => ?_)
        · replace h := xpos c8 h
          refine x_iinc 2 1 [(2, .int (v2 + 1)), (0, .ref 65), (1, .int v1), (3, .int v3), (4, .int v4), (5, .int v5)] d_Md_flood_73 rfl (by decide) (Nat.le_of_ble_eq_true rfl) rfl ?_
          refine x_iinc 3 1 [(3, .int (v3 + 1)), (2, .int (v2 + 1)), (0, .ref 65), (1, .int v1), (4, .int v4), (5, .int v5)] d_Md_flood_76 rfl (by decide) (Nat.le_of_ble_eq_true rfl) rfl ?_
          refine x_goto 11 d_Md_flood_79 (by decide) ?_
          refine x_pick [2, 3, 1, 0] rfl ?_
          exact hk11 v1 (v2 + 1) (v3 + 1) h
        · replace h := xneg c8 h
          refine x_iload_n 3 d_Md_flood_71 rfl rfl ?_
          obtain rfl := Option.some.inj h
          exact x_ireturn rfl d_Md_flood_72 (Nat.le_refl _) (Nat.le_refl _) ⟨rfl, rfl⟩
  · replace h := xneg c4 h
    refine x_iload 4 d_Md_flood_29 rfl ?_
    refine x_aload_n 0 d_Md_flood_31 rfl rfl ?_
    refine x_iload_n 3 d_Md_flood_32 rfl rfl ?_
    refine x_iload 5 d_Md_flood_33 rfl ?_
    obtain ⟨p9, e10, h⟩ := xbind h
    refine x_callV0 e_Md_291 sh_65 rfl (t_Md_decreeOf v3 v5 V L _ e10) rfl rfl rfl (Nat.le_of_ble_eq_true rfl) (xfit_of (by omega) (Nat.le_of_ble_eq_true rfl)) (Nat.zero_le _) (Nat.zero_le _) d_Md_flood_35 ?_
    refine x_iadd d_Md_flood_38 ?_
    refine x_istore [(4, .int (v4 + p9)), (0, .ref 65), (1, .int v1), (2, .int v2), (3, .int v3), (5, .int v5)] d_Md_flood_39 (Nat.le_of_ble_eq_true rfl) rfl ?_
    refine x_iinc 5 1 [(5, .int (v5 + 1)), (4, .int (v4 + p9)), (0, .ref 65), (1, .int v1), (2, .int v2), (3, .int v3)] d_Md_flood_41 rfl (by decide) (Nat.le_of_ble_eq_true rfl) rfl ?_
    refine x_goto 23 d_Md_flood_44 (by decide) ?_
    refine x_pick [2, 3, 4, 5, 1, 0] rfl ?_
    exact hk23 v1 v2 v3 (v4 + p9) (v5 + 1) h
def g_Md_flood_23 (V : xV) (k11 : Int32 → Int32 → Int32 → Option (Int32)) : Nat → Int32 → Int32 → Int32 → Int32 → Int32 → Option (Int32)
  | 0, _, _, _, _, _ => none
  | n + 1, v1, v2, v3, v4, v5 => b_Md_flood_23 V k11 (g_Md_flood_23 V k11 n) v1 v2 v3 v4 v5
theorem tg_Md_flood_23 {V : xV} {L : xL} (k11 : Int32 → Int32 → Int32 → Option (Int32)) (res : Int32) (hk11 : ∀ (v1 : Int32) (v2 : Int32) (v3 : Int32), k11 v1 v2 v3 = some res → X M_Md_flood (xRm (2) M_Md_flood) (xZ M_Md_flood (fun o h' => o = some (.int res) ∧ h' = (SH, V, L))) SH V L 0 0 11 [(0, .ref 65), (1, .int v1), (2, .int v2), (3, .int v3)] []) : ∀ (n : Nat) (v1 : Int32) (v2 : Int32) (v3 : Int32) (v4 : Int32) (v5 : Int32), g_Md_flood_23 V k11 n v1 v2 v3 v4 v5 = some res → X M_Md_flood (xRm (2) M_Md_flood) (xZ M_Md_flood (fun o h' => o = some (.int res) ∧ h' = (SH, V, L))) SH V L 0 0 23 [(0, .ref 65), (1, .int v1), (2, .int v2), (3, .int v3), (4, .int v4), (5, .int v5)] []
  | 0, _, _, _, _, _, h => by cases h
  | n + 1, v1, v2, v3, v4, v5, h => tb_Md_flood_23 (V := V) (L := L) k11 (g_Md_flood_23 V k11 n) res hk11 (tg_Md_flood_23 (V := V) (L := L) k11 res hk11 n) v1 v2 v3 v4 v5 h
def b_Md_flood_11 (V : xV) (k11 : Int32 → Int32 → Int32 → Option (Int32)) (v1 : Int32) (v2 : Int32) (v3 : Int32) : Option (Int32) := (if 30 ≤ v3 then (if ¬ v1 = (-1) then some (-1) else some v2) else g_Md_flood_23 V k11 2000 v1 v2 v3 0 0)
theorem tb_Md_flood_11 {V : xV} {L : xL} (k11 : Int32 → Int32 → Int32 → Option (Int32)) (res : Int32) (hk11 : ∀ (v1 : Int32) (v2 : Int32) (v3 : Int32), k11 v1 v2 v3 = some res → X M_Md_flood (xRm (2) M_Md_flood) (xZ M_Md_flood (fun o h' => o = some (.int res) ∧ h' = (SH, V, L))) SH V L 0 0 11 [(0, .ref 65), (1, .int v1), (2, .int v2), (3, .int v3)] []) (v1 : Int32) (v2 : Int32) (v3 : Int32) (h : b_Md_flood_11 V k11 v1 v2 v3 = some res) : X M_Md_flood (xRm (2) M_Md_flood) (xZ M_Md_flood (fun o h' => o = some (.int res) ∧ h' = (SH, V, L))) SH V L 0 0 11 [(0, .ref 65), (1, .int v1), (2, .int v2), (3, .int v3)] [] := by
  unfold b_Md_flood_11 at h
  refine x_iload_n 3 d_Md_flood_11 rfl rfl ?_
  refine x_bipush 30 d_Md_flood_12 (by decide) ?_
  refine x_icmp_ge 82 d_Md_flood_14 (by decide) (fun c2 => ?_) (fun c2 => ?_)
  · replace h := xpos c2 h
    refine x_iload_n 1 d_Md_flood_82 rfl rfl ?_
    refine x_iconst (-1) d_Md_flood_83 (by decide) ?_
    refine x_icmp_ne 91 d_Md_flood_84 (by decide) (fun c3 => ?_) (fun c3 => ?_)
    · replace h := xpos c3 h
      refine x_iconst (-1) d_Md_flood_91 (by decide) ?_
      obtain rfl := Option.some.inj h
      exact x_ireturn rfl d_Md_flood_92 (Nat.le_refl _) (Nat.le_refl _) ⟨rfl, rfl⟩
    · replace h := xneg c3 h
      refine x_iload_n 2 d_Md_flood_87 rfl rfl ?_
      refine x_goto 92 d_Md_flood_88 (by decide) ?_
      obtain rfl := Option.some.inj h
      exact x_ireturn rfl d_Md_flood_92 (Nat.le_refl _) (Nat.le_refl _) ⟨rfl, rfl⟩
  · replace h := xneg c2 h
    refine x_iconst 0 d_Md_flood_17 (by decide) ?_
    refine x_istore [(4, .int 0), (0, .ref 65), (1, .int v1), (2, .int v2), (3, .int v3)] d_Md_flood_18 (Nat.le_of_ble_eq_true rfl) rfl ?_
    refine x_iconst 0 d_Md_flood_20 (by decide) ?_
    refine x_istore [(5, .int 0), (4, .int 0), (0, .ref 65), (1, .int v1), (2, .int v2), (3, .int v3)] d_Md_flood_21 (Nat.le_of_ble_eq_true rfl) rfl ?_
    refine x_pick [2, 3, 4, 5, 1, 0] rfl ?_
    exact tg_Md_flood_23 (V := V) (L := L) k11 res hk11 _ v1 v2 v3 0 0 h
def g_Md_flood_11 (V : xV) : Nat → Int32 → Int32 → Int32 → Option (Int32)
  | 0, _, _, _ => none
  | n + 1, v1, v2, v3 => b_Md_flood_11 V (g_Md_flood_11 V n) v1 v2 v3
theorem tg_Md_flood_11 {V : xV} {L : xL} (res : Int32)  : ∀ (n : Nat) (v1 : Int32) (v2 : Int32) (v3 : Int32), g_Md_flood_11 V n v1 v2 v3 = some res → X M_Md_flood (xRm (2) M_Md_flood) (xZ M_Md_flood (fun o h' => o = some (.int res) ∧ h' = (SH, V, L))) SH V L 0 0 11 [(0, .ref 65), (1, .int v1), (2, .int v2), (3, .int v3)] []
  | 0, _, _, _, h => by cases h
  | n + 1, v1, v2, v3, h => tb_Md_flood_11 (V := V) (L := L) (g_Md_flood_11 V n) res (tg_Md_flood_11 (V := V) (L := L) res n) v1 v2 v3 h
def f_Md_flood (a1 : Int32) (V : xV) : Option (Int32) := (if (-1) ≤ a1 then g_Md_flood_11 V 2000 a1 0 0 else some (-1))
theorem t_Md_flood (a1 : Int32) (V : xV) (L : xL) (res : Int32) (h : f_Md_flood a1 V = some res) : xRuns (2) M_Md_flood [.ref 65, .int a1] (SH, V, L) (fun o h' => o = some (.int res) ∧ h' = (SH, V, L)) := by
  refine xRuns_of (by decide) (Nat.le_of_ble_eq_true rfl) ?_
  unfold f_Md_flood at h
  show X M_Md_flood (xRm (2) M_Md_flood) (xZ M_Md_flood (fun o h' => o = some (.int res) ∧ h' = (SH, V, L))) SH V L 0 0 0 [(0, .ref 65), (1, .int a1)] []
  refine x_iload_n 1 d_Md_flood_0 rfl rfl ?_
  refine x_iconst (-1) d_Md_flood_1 (by decide) ?_
  refine x_icmp_ge 7 d_Md_flood_2 (by decide) (fun c1 => ?_) (fun c1 => ?_)
  · replace h := xpos c1 h
    refine x_iconst 0 d_Md_flood_7 (by decide) ?_
    refine x_istore_n [(2, .int 0), (0, .ref 65), (1, .int a1)] d_Md_flood_8 rfl (Nat.le_of_ble_eq_true rfl) rfl ?_
    refine x_iconst 0 d_Md_flood_9 (by decide) ?_
    refine x_istore_n [(3, .int 0), (2, .int 0), (0, .ref 65), (1, .int a1)] d_Md_flood_10 rfl (Nat.le_of_ble_eq_true rfl) rfl ?_
    refine x_pick [2, 3, 1, 0] rfl ?_
    exact tg_Md_flood_11 (V := V) (L := L) res _ a1 0 0 h
  · replace h := xneg c1 h
    refine x_iconst (-1) d_Md_flood_5 (by decide) ?_
    obtain rfl := Option.some.inj h
    exact x_ireturn rfl d_Md_flood_6 (Nat.le_refl _) (Nat.le_refl _) ⟨rfl, rfl⟩
-- Md_reform
def b_Md_reform_57 (k38 : Int32 → Int32 → Int32 → Int32 → Int32 → xV → xL → Option (Int32 × xV × xL)) (k57 : Int32 → Int32 → Int32 → Int32 → Int32 → Int32 → xV → xL → Option (Int32 × xV × xL)) (v1 : Int32) (v2 : Int32) (v3 : Int32) (v4 : Int32) (v5 : Int32) (v6 : Int32) (V : xV) (L : xL) : Option (Int32 × xV × xL) := (if 6 ≤ v6 then k38 v1 v2 v3 v4 (v5 + 1) V L else (if xI ((6 * (V 66 3)) + v6) 24 = true then (if ¬ (V 71 ((6 * (V 66 3)) + v6).toNatClampNeg) = v5 then k57 v1 v2 v3 v4 v5 (v6 + 1) V L else (Option.bind (f_Md_sumAll 0 29 0 (x2 V 65 35 v6) L) fun p13 => (if (p13.1 - v2) ≤ v4 then k57 v1 v2 v3 v4 v5 (v6 + 1) (x2 p13.2.1 65 35 (-1)) p13.2.2 else k57 v1 v2 v5 (p13.1 - v2) v5 (v6 + 1) (x2 p13.2.1 65 35 (-1)) p13.2.2))) else none))
theorem tb_Md_reform_57 (k38 : Int32 → Int32 → Int32 → Int32 → Int32 → xV → xL → Option (Int32 × xV × xL)) (k57 : Int32 → Int32 → Int32 → Int32 → Int32 → Int32 → xV → xL → Option (Int32 × xV × xL)) (res : Int32 × xV × xL) (hk38 : ∀ (v1 : Int32) (v2 : Int32) (v3 : Int32) (v4 : Int32) (v5 : Int32) (V : xV) (L : xL), k38 v1 v2 v3 v4 v5 V L = some res → X M_Md_reform (xRm (13) M_Md_reform) (xZ M_Md_reform (fun o h' => o = some (.int res.1) ∧ h' = (SH, res.2.1, res.2.2))) SH V L 0 0 38 [(0, .ref 65), (1, .int v1), (2, .int v2), (3, .int v3), (4, .int v4), (5, .int v5)] []) (hk57 : ∀ (v1 : Int32) (v2 : Int32) (v3 : Int32) (v4 : Int32) (v5 : Int32) (v6 : Int32) (V : xV) (L : xL), k57 v1 v2 v3 v4 v5 v6 V L = some res → X M_Md_reform (xRm (13) M_Md_reform) (xZ M_Md_reform (fun o h' => o = some (.int res.1) ∧ h' = (SH, res.2.1, res.2.2))) SH V L 0 0 57 [(0, .ref 65), (1, .int v1), (2, .int v2), (3, .int v3), (4, .int v4), (5, .int v5), (6, .int v6)] []) (v1 : Int32) (v2 : Int32) (v3 : Int32) (v4 : Int32) (v5 : Int32) (v6 : Int32) (V : xV) (L : xL) (h : b_Md_reform_57 k38 k57 v1 v2 v3 v4 v5 v6 V L = some res) : X M_Md_reform (xRm (13) M_Md_reform) (xZ M_Md_reform (fun o h' => o = some (.int res.1) ∧ h' = (SH, res.2.1, res.2.2))) SH V L 0 0 57 [(0, .ref 65), (1, .int v1), (2, .int v2), (3, .int v3), (4, .int v4), (5, .int v5), (6, .int v6)] [] := by
  unfold b_Md_reform_57 at h
  refine x_iload 6 d_Md_reform_57 rfl ?_
  refine x_bipush 6 d_Md_reform_59 (by decide) ?_
  refine x_icmp_ge 129 d_Md_reform_61 (by decide) (fun c10 => ?_) (fun c10 => ?_)
  · replace h := xpos c10 h
    refine x_iinc 5 1 [(5, .int (v5 + 1)), (0, .ref 65), (1, .int v1), (2, .int v2), (3, .int v3), (4, .int v4), (6, .int v6)] d_Md_reform_129 rfl (by decide) (Nat.le_of_ble_eq_true rfl) rfl ?_
    refine x_goto 38 d_Md_reform_132 (by decide) ?_
    refine x_pick [1, 2, 3, 4, 5, 0] rfl ?_
    exact hk38 v1 v2 v3 v4 (v5 + 1) V L h
  · replace h := xneg c10 h
    refine x_aload_n 0 d_Md_reform_64 rfl rfl ?_
    refine x_getP (q := 71) f_Md_33 sh_65 rfl d_Md_reform_65 ?_
    refine x_bipush 6 d_Md_reform_68 (by decide) ?_
    refine x_aload_n 0 d_Md_reform_70 rfl rfl ?_
    refine x_getP (q := 66) f_Md_7 sh_65 rfl d_Md_reform_71 ?_
    refine x_iconst 3 d_Md_reform_74 (by decide) ?_
    refine x_ialoadC 3 sh_66 (by decide) (by decide) d_Md_reform_75 ?_
    refine x_imul d_Md_reform_76 ?_
    refine x_iload 6 d_Md_reform_77 rfl ?_
    refine x_iadd d_Md_reform_79 ?_
    obtain ⟨c11, h⟩ := xguard h
    refine x_iaload sh_71 c11 d_Md_reform_80 ?_
    refine x_iload 5 d_Md_reform_81 rfl ?_
    refine x_icmp_ne 123 d_Md_reform_83 (by decide) (fun c12 => ?_) (fun c12 => ?_)
    · replace h := xpos c12 h
      refine x_iinc 6 1 [(6, .int (v6 + 1)), (0, .ref 65), (1, .int v1), (2, .int v2), (3, .int v3), (4, .int v4), (5, .int v5)] d_Md_reform_123 rfl (by decide) (Nat.le_of_ble_eq_true rfl) rfl ?_
      refine x_goto 57 d_Md_reform_126 (by decide) ?_
      refine x_pick [1, 2, 3, 4, 5, 6, 0] rfl ?_
      exact hk57 v1 v2 v3 v4 v5 (v6 + 1) V L h
    · replace h := xneg c12 h
      refine x_aload_n 0 d_Md_reform_86 rfl rfl ?_
      refine x_iload 6 d_Md_reform_87 rfl ?_
      refine x_putI f_Md_73 sh_65 rfl rfl rfl d_Md_reform_89 ?_
      refine x_aload_n 0 d_Md_reform_92 rfl rfl ?_
      refine x_iconst 0 d_Md_reform_93 (by decide) ?_
      refine x_bipush 29 d_Md_reform_94 (by decide) ?_
      refine x_iconst 0 d_Md_reform_96 (by decide) ?_
      obtain ⟨p13, e14, h⟩ := xbind h
      refine x_callV0 e_Md_346 sh_65 rfl (t_Md_sumAll 0 29 0 (x2 V 65 35 v6) L _ e14) rfl rfl rfl (Nat.le_of_ble_eq_true rfl) (xfit_of (by omega) (Nat.le_of_ble_eq_true rfl)) (Nat.zero_le _) (Nat.zero_le _) d_Md_reform_97 ?_
      refine x_iload_n 2 d_Md_reform_100 rfl rfl ?_
      refine x_isub d_Md_reform_101 ?_
      refine x_istore [(7, .int (p13.1 - v2)), (0, .ref 65), (1, .int v1), (2, .int v2), (3, .int v3), (4, .int v4), (5, .int v5), (6, .int v6)] d_Md_reform_102 (Nat.le_of_ble_eq_true rfl) rfl ?_
      refine x_aload_n 1 d_Md_reform_104 rfl rfl ?_
      refine x_iconst (-1) d_Md_reform_105 (by decide) ?_
      refine x_putI f_Md_73 sh_65 rfl rfl rfl d_Md_reform_106 ?_
      refine x_iload 0 d_Md_reform_109 rfl ?_
      refine x_iload 5 d_Md_reform_111 rfl ?_
      refine x_icmp_le 123 d_Md_reform_113 (by decide) (fun c15 => ?_) (fun c15 => ?_)
      · replace h := xpos c15 h
        refine x_iinc 7 1 [(6, .int (v6 + 1)), (7, .int (p13.1 - v2)), (0, .ref 65), (1, .int v1), (2, .int v2), (3, .int v3), (4, .int v4), (5, .int v5)] d_Md_reform_123 rfl (by decide) (Nat.le_of_ble_eq_true rfl) rfl ?_
        refine x_goto 57 d_Md_reform_126 (by decide) ?_
        refine x_pick [2, 3, 4, 5, 6, 7, 0] rfl ?_
        exact hk57 v1 v2 v3 v4 v5 (v6 + 1) (x2 p13.2.1 65 35 (-1)) p13.2.2 h
      · replace h := xneg c15 h
        refine x_iload 0 d_Md_reform_116 rfl ?_
        refine x_istore [(4, .int (p13.1 - v2)), (7, .int (p13.1 - v2)), (0, .ref 65), (1, .int v1), (2, .int v2), (3, .int v3), (5, .int v5), (6, .int v6)] d_Md_reform_118 (Nat.le_of_ble_eq_true rfl) rfl ?_
        refine x_iload 6 d_Md_reform_120 rfl ?_
        refine x_istore_n [(3, .int v5), (4, .int (p13.1 - v2)), (7, .int (p13.1 - v2)), (0, .ref 65), (1, .int v1), (2, .int v2), (5, .int v5), (6, .int v6)] d_Md_reform_122 rfl (Nat.le_of_ble_eq_true rfl) rfl ?_
        refine x_iinc 7 1 [(6, .int (v6 + 1)), (3, .int v5), (4, .int (p13.1 - v2)), (7, .int (p13.1 - v2)), (0, .ref 65), (1, .int v1), (2, .int v2), (5, .int v5)] d_Md_reform_123 rfl (by decide) (Nat.le_of_ble_eq_true rfl) rfl ?_
        refine x_goto 57 d_Md_reform_126 (by decide) ?_
        refine x_pick [4, 5, 6, 1, 2, 7, 0] rfl ?_
        exact hk57 v1 v2 v5 (p13.1 - v2) v5 (v6 + 1) (x2 p13.2.1 65 35 (-1)) p13.2.2 h
def g_Md_reform_57 (k38 : Int32 → Int32 → Int32 → Int32 → Int32 → xV → xL → Option (Int32 × xV × xL)) : Nat → Int32 → Int32 → Int32 → Int32 → Int32 → Int32 → xV → xL → Option (Int32 × xV × xL)
  | 0, _, _, _, _, _, _, _, _ => none
  | n + 1, v1, v2, v3, v4, v5, v6, V, L => b_Md_reform_57 k38 (g_Md_reform_57 k38 n) v1 v2 v3 v4 v5 v6 V L
theorem tg_Md_reform_57 (k38 : Int32 → Int32 → Int32 → Int32 → Int32 → xV → xL → Option (Int32 × xV × xL)) (res : Int32 × xV × xL) (hk38 : ∀ (v1 : Int32) (v2 : Int32) (v3 : Int32) (v4 : Int32) (v5 : Int32) (V : xV) (L : xL), k38 v1 v2 v3 v4 v5 V L = some res → X M_Md_reform (xRm (13) M_Md_reform) (xZ M_Md_reform (fun o h' => o = some (.int res.1) ∧ h' = (SH, res.2.1, res.2.2))) SH V L 0 0 38 [(0, .ref 65), (1, .int v1), (2, .int v2), (3, .int v3), (4, .int v4), (5, .int v5)] []) : ∀ (n : Nat) (v1 : Int32) (v2 : Int32) (v3 : Int32) (v4 : Int32) (v5 : Int32) (v6 : Int32) (V : xV) (L : xL), g_Md_reform_57 k38 n v1 v2 v3 v4 v5 v6 V L = some res → X M_Md_reform (xRm (13) M_Md_reform) (xZ M_Md_reform (fun o h' => o = some (.int res.1) ∧ h' = (SH, res.2.1, res.2.2))) SH V L 0 0 57 [(0, .ref 65), (1, .int v1), (2, .int v2), (3, .int v3), (4, .int v4), (5, .int v5), (6, .int v6)] []
  | 0, _, _, _, _, _, _, _, _, h => by cases h
  | n + 1, v1, v2, v3, v4, v5, v6, V, L, h => tb_Md_reform_57 k38 (g_Md_reform_57 k38 n) res hk38 (tg_Md_reform_57 k38 res hk38 n) v1 v2 v3 v4 v5 v6 V L h
def b_Md_reform_38 (k38 : Int32 → Int32 → Int32 → Int32 → Int32 → xV → xL → Option (Int32 × xV × xL)) (v1 : Int32) (v2 : Int32) (v3 : Int32) (v4 : Int32) (v5 : Int32) (V : xV) (L : xL) : Option (Int32 × xV × xL) := (if xI (V 66 3) 4 = true then (if (V 69 (V 66 3).toNatClampNeg) ≤ v5 then (if ¬ v3 = (-1) then (if ¬ v1 = 0 then some (v4, V, L) else some (v3, V, L)) else some ((-1), V, L)) else g_Md_reform_57 k38 2000 v1 v2 v3 v4 v5 0 V L) else none)
theorem tb_Md_reform_38 (k38 : Int32 → Int32 → Int32 → Int32 → Int32 → xV → xL → Option (Int32 × xV × xL)) (res : Int32 × xV × xL) (hk38 : ∀ (v1 : Int32) (v2 : Int32) (v3 : Int32) (v4 : Int32) (v5 : Int32) (V : xV) (L : xL), k38 v1 v2 v3 v4 v5 V L = some res → X M_Md_reform (xRm (13) M_Md_reform) (xZ M_Md_reform (fun o h' => o = some (.int res.1) ∧ h' = (SH, res.2.1, res.2.2))) SH V L 0 0 38 [(0, .ref 65), (1, .int v1), (2, .int v2), (3, .int v3), (4, .int v4), (5, .int v5)] []) (v1 : Int32) (v2 : Int32) (v3 : Int32) (v4 : Int32) (v5 : Int32) (V : xV) (L : xL) (h : b_Md_reform_38 k38 v1 v2 v3 v4 v5 V L = some res) : X M_Md_reform (xRm (13) M_Md_reform) (xZ M_Md_reform (fun o h' => o = some (.int res.1) ∧ h' = (SH, res.2.1, res.2.2))) SH V L 0 0 38 [(0, .ref 65), (1, .int v1), (2, .int v2), (3, .int v3), (4, .int v4), (5, .int v5)] [] := by
  unfold b_Md_reform_38 at h
  refine x_iload 5 d_Md_reform_38 rfl ?_
  refine x_aload_n 0 d_Md_reform_40 rfl rfl ?_
  refine x_getP (q := 69) f_Md_27 sh_65 rfl d_Md_reform_41 ?_
  refine x_aload_n 0 d_Md_reform_44 rfl rfl ?_
  refine x_getP (q := 66) f_Md_7 sh_65 rfl d_Md_reform_45 ?_
  refine x_iconst 3 d_Md_reform_48 (by decide) ?_
  refine x_ialoadC 3 sh_66 (by decide) (by decide) d_Md_reform_49 ?_
  obtain ⟨c6, h⟩ := xguard h
  refine x_iaload sh_69 c6 d_Md_reform_50 ?_
  refine x_icmp_ge 135 d_Md_reform_51 (by decide) (fun c7 => ?_) (fun c7 => ?_)
  · replace h := xpos c7 h
    refine x_iload_n 3 d_Md_reform_135 rfl rfl ?_
    refine x_iconst (-1) d_Md_reform_136 (by decide) ?_
    refine x_icmp_ne 144 d_Md_reform_137 (by decide) (fun c8 => ?_) (fun c8 => ?_)
    · replace h := xpos c8 h
      refine x_iload_n 1 d_Md_reform_144 rfl rfl ?_
      refine x_if_ne 152 d_Md_reform_145 (by decide) (fun c9 => ?_) (fun c9 => ?_)
      · replace h := xpos c9 h
        refine x_iload 4 d_Md_reform_152 rfl ?_
        obtain rfl := Option.some.inj h
        exact x_ireturn rfl d_Md_reform_154 (Nat.le_refl _) (Nat.le_refl _) ⟨rfl, rfl⟩
      · replace h := xneg c9 h
        refine x_iload_n 3 d_Md_reform_148 rfl rfl ?_
        refine x_goto 154 d_Md_reform_149 (by decide) ?_
        obtain rfl := Option.some.inj h
        exact x_ireturn rfl d_Md_reform_154 (Nat.le_refl _) (Nat.le_refl _) ⟨rfl, rfl⟩
    · replace h := xneg c8 h
      refine x_iconst (-1) d_Md_reform_140 (by decide) ?_
      refine x_goto 154 d_Md_reform_141 (by decide) ?_
      obtain rfl := Option.some.inj h
      exact x_ireturn rfl d_Md_reform_154 (Nat.le_refl _) (Nat.le_refl _) ⟨rfl, rfl⟩
  · replace h := xneg c7 h
    refine x_iconst 0 d_Md_reform_54 (by decide) ?_
    refine x_istore [(6, .int 0), (0, .ref 65), (1, .int v1), (2, .int v2), (3, .int v3), (4, .int v4), (5, .int v5)] d_Md_reform_55 (Nat.le_of_ble_eq_true rfl) rfl ?_
    refine x_pick [1, 2, 3, 4, 5, 6, 0] rfl ?_
    exact tg_Md_reform_57 k38 res hk38 _ v1 v2 v3 v4 v5 0 V L h
def g_Md_reform_38  : Nat → Int32 → Int32 → Int32 → Int32 → Int32 → xV → xL → Option (Int32 × xV × xL)
  | 0, _, _, _, _, _, _, _ => none
  | n + 1, v1, v2, v3, v4, v5, V, L => b_Md_reform_38 (g_Md_reform_38  n) v1 v2 v3 v4 v5 V L
theorem tg_Md_reform_38  (res : Int32 × xV × xL)  : ∀ (n : Nat) (v1 : Int32) (v2 : Int32) (v3 : Int32) (v4 : Int32) (v5 : Int32) (V : xV) (L : xL), g_Md_reform_38  n v1 v2 v3 v4 v5 V L = some res → X M_Md_reform (xRm (13) M_Md_reform) (xZ M_Md_reform (fun o h' => o = some (.int res.1) ∧ h' = (SH, res.2.1, res.2.2))) SH V L 0 0 38 [(0, .ref 65), (1, .int v1), (2, .int v2), (3, .int v3), (4, .int v4), (5, .int v5)] []
  | 0, _, _, _, _, _, _, _, h => by cases h
  | n + 1, v1, v2, v3, v4, v5, V, L, h => tb_Md_reform_38 (g_Md_reform_38  n) res (tg_Md_reform_38 res n) v1 v2 v3 v4 v5 V L h
def f_Md_reform (a1 : Int32) (V : xV) (L : xL) : Option (Int32 × xV × xL) := (if (f_Md_in a1 0 1) = 0 then some ((-1), V, L) else (if ¬ (V 66 3) = (-1) then (Option.bind (f_Md_sumAll 0 29 0 V L) fun p4 => g_Md_reform_38 2000 a1 p4.1 (-1) 0 0 p4.2.1 p4.2.2) else some ((-1), V, L)))
theorem t_Md_reform (a1 : Int32) (V : xV) (L : xL) (res : Int32 × xV × xL) (h : f_Md_reform a1 V L = some res) : xRuns (13) M_Md_reform [.ref 65, .int a1] (SH, V, L) (fun o h' => o = some (.int res.1) ∧ h' = (SH, res.2.1, res.2.2)) := by
  refine xRuns_of (by decide) (Nat.le_of_ble_eq_true rfl) ?_
  unfold f_Md_reform at h
  show X M_Md_reform (xRm (13) M_Md_reform) (xZ M_Md_reform (fun o h' => o = some (.int res.1) ∧ h' = (SH, res.2.1, res.2.2))) SH V L 0 0 0 [(0, .ref 65), (1, .int a1)] []
  refine x_iload_n 1 d_Md_reform_0 rfl rfl ?_
  refine x_iconst 0 d_Md_reform_1 (by decide) ?_
  refine x_iconst 1 d_Md_reform_2 (by decide) ?_
  refine x_callS0 e_Md_89 (t_Md_in a1 0 1 V L _ rfl) rfl rfl rfl (Nat.le_of_ble_eq_true rfl) (xfit_of (by omega) (Nat.le_of_ble_eq_true rfl)) (Nat.zero_le _) (Nat.zero_le _) d_Md_reform_3 ?_
  refine x_if_eq 19 d_Md_reform_6 (by decide) (fun c2 => ?_) (fun c2 => ?_)
  · replace h := xpos c2 h
    refine x_iconst (-1) d_Md_reform_19 (by decide) ?_
    obtain rfl := Option.some.inj h
    exact x_ireturn rfl d_Md_reform_20 (Nat.le_refl _) (Nat.le_refl _) ⟨rfl, rfl⟩
  · replace h := xneg c2 h
    refine x_aload_n 0 d_Md_reform_9 rfl rfl ?_
    refine x_getP (q := 66) f_Md_7 sh_65 rfl d_Md_reform_10 ?_
    refine x_iconst 3 d_Md_reform_13 (by decide) ?_
    refine x_ialoadC 3 sh_66 (by decide) (by decide) d_Md_reform_14 ?_
    refine x_iconst (-1) d_Md_reform_15 (by decide) ?_
    refine x_icmp_ne 21 d_Md_reform_16 (by decide) (fun c3 => ?_) (fun c3 => ?_)
    · replace h := xpos c3 h
      refine x_aload_n 0 d_Md_reform_21 rfl rfl ?_
      refine x_iconst 0 d_Md_reform_22 (by decide) ?_
      refine x_bipush 29 d_Md_reform_23 (by decide) ?_
      refine x_iconst 0 d_Md_reform_25 (by decide) ?_
      obtain ⟨p4, e5, h⟩ := xbind h
      refine x_callV0 e_Md_346 sh_65 rfl (t_Md_sumAll 0 29 0 V L _ e5) rfl rfl rfl (Nat.le_of_ble_eq_true rfl) (xfit_of (by omega) (Nat.le_of_ble_eq_true rfl)) (Nat.zero_le _) (Nat.zero_le _) d_Md_reform_26 ?_
      refine x_istore_n [(2, .int p4.1), (0, .ref 65), (1, .int a1)] d_Md_reform_29 rfl (Nat.le_of_ble_eq_true rfl) rfl ?_
      refine x_iconst (-1) d_Md_reform_30 (by decide) ?_
      refine x_istore_n [(3, .int (-1)), (2, .int p4.1), (0, .ref 65), (1, .int a1)] d_Md_reform_31 rfl (Nat.le_of_ble_eq_true rfl) rfl ?_
      refine x_iconst 0 d_Md_reform_32 (by decide) ?_
      refine x_istore [(4, .int 0), (3, .int (-1)), (2, .int p4.1), (0, .ref 65), (1, .int a1)] d_Md_reform_33 (Nat.le_of_ble_eq_true rfl) rfl ?_
      refine x_iconst 0 d_Md_reform_35 (by decide) ?_
      refine x_istore [(5, .int 0), (4, .int 0), (3, .int (-1)), (2, .int p4.1), (0, .ref 65), (1, .int a1)] d_Md_reform_36 (Nat.le_of_ble_eq_true rfl) rfl ?_
      refine x_pick [4, 5, 3, 2, 1, 0] rfl ?_
      exact tg_Md_reform_38 res _ a1 p4.1 (-1) 0 0 p4.2.1 p4.2.2 h
    · replace h := xneg c3 h
      refine x_iconst (-1) d_Md_reform_19 (by decide) ?_
      obtain rfl := Option.some.inj h
      exact x_ireturn rfl d_Md_reform_20 (Nat.le_refl _) (Nat.le_refl _) ⟨rfl, rfl⟩
-- Md_isSmall
def f_Md_isSmall (a0 : Int32) : Int32 := (f_Md_in a0 97 122)
theorem t_Md_isSmall (a0 : Int32) (V : xV) (L : xL) (res : Int32) (h : f_Md_isSmall a0 = res) : xRuns (2) M_Md_isSmall [.int a0] (SH, V, L) (fun o h' => o = some (.int res) ∧ h' = (SH, V, L)) := by
  refine xRuns_of (by decide) (Nat.le_of_ble_eq_true rfl) ?_
  unfold f_Md_isSmall at h
  show X M_Md_isSmall (xRm (2) M_Md_isSmall) (xZ M_Md_isSmall (fun o h' => o = some (.int res) ∧ h' = (SH, V, L))) SH V L 0 0 0 [(0, .int a0)] []
  refine x_iload_n 0 d_Md_isSmall_0 rfl rfl ?_
  refine x_bipush 97 d_Md_isSmall_1 (by decide) ?_
  refine x_bipush 122 d_Md_isSmall_3 (by decide) ?_
  refine x_callS0 e_Md_89 (t_Md_in a0 97 122 V L _ rfl) rfl rfl rfl (Nat.le_of_ble_eq_true rfl) (xfit_of (by omega) (Nat.le_of_ble_eq_true rfl)) (Nat.zero_le _) (Nat.zero_le _) d_Md_isSmall_5 ?_
  obtain rfl := h
  exact x_zreturn rfl (xnz (z_Md_in a0 97 122)) d_Md_isSmall_8 (Nat.le_refl _) (Nat.le_refl _) ⟨rfl, rfl⟩
-- Md_isVowel
def f_Md_isVowel (a0 : Int32) : Int32 := (if a0 = 97 then 1 else (if a0 = 101 then 1 else (if a0 = 105 then 1 else (if a0 = 111 then 1 else (if ¬ a0 = 117 then 0 else 1)))))
theorem t_Md_isVowel (a0 : Int32) (V : xV) (L : xL) (res : Int32) (h : f_Md_isVowel a0 = res) : xRuns (1) M_Md_isVowel [.int a0] (SH, V, L) (fun o h' => o = some (.int res) ∧ h' = (SH, V, L)) := by
  refine xRuns_of (by decide) (Nat.le_of_ble_eq_true rfl) ?_
  unfold f_Md_isVowel at h
  show X M_Md_isVowel (xRm (1) M_Md_isVowel) (xZ M_Md_isVowel (fun o h' => o = some (.int res) ∧ h' = (SH, V, L))) SH V L 0 0 0 [(0, .int a0)] []
  refine x_iload_n 0 d_Md_isVowel_0 rfl rfl ?_
  refine x_bipush 97 d_Md_isVowel_1 (by decide) ?_
  refine x_icmp_eq 30 d_Md_isVowel_3 (by decide) (fun c1 => ?_) (fun c1 => ?_)
  · replace h := xpos c1 h
    refine x_iconst 1 d_Md_isVowel_30 (by decide) ?_
    refine x_goto 35 d_Md_isVowel_31 (by decide) ?_
    obtain rfl := h
    exact x_zreturn rfl rfl d_Md_isVowel_35 (Nat.le_refl _) (Nat.le_refl _) ⟨rfl, rfl⟩
  · replace h := xneg c1 h
    refine x_iload_n 0 d_Md_isVowel_6 rfl rfl ?_
    refine x_bipush 101 d_Md_isVowel_7 (by decide) ?_
    refine x_icmp_eq 30 d_Md_isVowel_9 (by decide) (fun c2 => ?_) (fun c2 => ?_)
    · replace h := xpos c2 h
      refine x_iconst 1 d_Md_isVowel_30 (by decide) ?_
      refine x_goto 35 d_Md_isVowel_31 (by decide) ?_
      obtain rfl := h
      exact x_zreturn rfl rfl d_Md_isVowel_35 (Nat.le_refl _) (Nat.le_refl _) ⟨rfl, rfl⟩
    · replace h := xneg c2 h
      refine x_iload_n 0 d_Md_isVowel_12 rfl rfl ?_
      refine x_bipush 105 d_Md_isVowel_13 (by decide) ?_
      refine x_icmp_eq 30 d_Md_isVowel_15 (by decide) (fun c3 => ?_) (fun c3 => ?_)
      · replace h := xpos c3 h
        refine x_iconst 1 d_Md_isVowel_30 (by decide) ?_
        refine x_goto 35 d_Md_isVowel_31 (by decide) ?_
        obtain rfl := h
        exact x_zreturn rfl rfl d_Md_isVowel_35 (Nat.le_refl _) (Nat.le_refl _) ⟨rfl, rfl⟩
      · replace h := xneg c3 h
        refine x_iload_n 0 d_Md_isVowel_18 rfl rfl ?_
        refine x_bipush 111 d_Md_isVowel_19 (by decide) ?_
        refine x_icmp_eq 30 d_Md_isVowel_21 (by decide) (fun c4 => ?_) (fun c4 => ?_)
        · replace h := xpos c4 h
          refine x_iconst 1 d_Md_isVowel_30 (by decide) ?_
          refine x_goto 35 d_Md_isVowel_31 (by decide) ?_
          obtain rfl := h
          exact x_zreturn rfl rfl d_Md_isVowel_35 (Nat.le_refl _) (Nat.le_refl _) ⟨rfl, rfl⟩
        · replace h := xneg c4 h
          refine x_iload_n 0 d_Md_isVowel_24 rfl rfl ?_
          refine x_bipush 117 d_Md_isVowel_25 (by decide) ?_
          refine x_icmp_ne 34 d_Md_isVowel_27 (by decide) (fun c5 => ?_) (fun c5 => ?_)
          · replace h := xpos c5 h
            refine x_iconst 0 d_Md_isVowel_34 (by decide) ?_
            obtain rfl := h
            exact x_zreturn rfl rfl d_Md_isVowel_35 (Nat.le_refl _) (Nat.le_refl _) ⟨rfl, rfl⟩
          · replace h := xneg c5 h
            refine x_iconst 1 d_Md_isVowel_30 (by decide) ?_
            refine x_goto 35 d_Md_isVowel_31 (by decide) ?_
            obtain rfl := h
            exact x_zreturn rfl rfl d_Md_isVowel_35 (Nat.le_refl _) (Nat.le_refl _) ⟨rfl, rfl⟩
-- Md_words
def b_Md_words_75 (k4 : Int32 → Int32 → Int32 → xV → Option (Int32 × xV)) (v1 : Int32) (v2 : Int32) (v3 : Int32) (v4 : Int32) (V : xV) : Option (Int32 × xV) := (if xI v2 300 = true then k4 v1 (v2 + 1) v3 (x2 V 86 v2.toNatClampNeg (xrem v4 10)) else none)
theorem tb_Md_words_75 {L : xL} (k4 : Int32 → Int32 → Int32 → xV → Option (Int32 × xV)) (res : Int32 × xV) (hk4 : ∀ (v1 : Int32) (v2 : Int32) (v3 : Int32) (V : xV), k4 v1 v2 v3 V = some res → X M_Md_words (xRm (3) M_Md_words) (xZ M_Md_words (fun o h' => o = some (.int res.1) ∧ h' = (SH, res.2, L))) SH V L 0 0 4 [(0, .ref 65), (1, .int v1), (2, .int v2), (3, .int v3)] []) (v1 : Int32) (v2 : Int32) (v3 : Int32) (v4 : Int32) (V : xV) (h : b_Md_words_75 k4 v1 v2 v3 v4 V = some res) : X M_Md_words (xRm (3) M_Md_words) (xZ M_Md_words (fun o h' => o = some (.int res.1) ∧ h' = (SH, res.2, L))) SH V L 0 0 75 [(0, .ref 65), (1, .int v1), (2, .int v2), (3, .int v3), (4, .int v4)] [] := by
  unfold b_Md_words_75 at h
  refine x_aload_n 0 d_Md_words_75 rfl rfl ?_
  refine x_getP (q := 86) f_Md_82 sh_65 rfl d_Md_words_76 ?_
  refine x_iload_n 2 d_Md_words_79 rfl rfl ?_
  refine x_iload 4 d_Md_words_80 rfl ?_
  refine x_bipush 10 d_Md_words_82 (by decide) ?_
  refine x_irem2 d_Md_words_84 (by decide) ?_
  obtain ⟨c14, h⟩ := xguard h
  refine x_iastore sh_86 c14 d_Md_words_85 ?_
  refine x_iinc 2 1 [(2, .int (v2 + 1)), (0, .ref 65), (1, .int v1), (3, .int v3), (4, .int v4)] d_Md_words_86 rfl (by decide) (Nat.le_of_ble_eq_true rfl) rfl ?_
  refine x_goto 4 d_Md_words_89 (by decide) ?_
  refine x_pick [1, 2, 0, 3] rfl ?_
  exact hk4 v1 (v2 + 1) v3 (x2 V 86 v2.toNatClampNeg (xrem v4 10)) h
def b_Md_words_27 (k4 : Int32 → Int32 → Int32 → xV → Option (Int32 × xV)) (k27 : Int32 → Int32 → Int32 → Int32 → xV → Option (Int32 × xV)) (v1 : Int32) (v2 : Int32) (v3 : Int32) (v4 : Int32) (V : xV) : Option (Int32 × xV) := (if (V 65 3) ≤ v3 then b_Md_words_75 k4 v1 v2 v3 v4 V else (if xI v3 300 = true then (if (f_Md_isSmall (V 68 v3.toNatClampNeg)) = 0 then b_Md_words_75 k4 v1 v2 v3 v4 V else (if xI v3 300 = true then (if (f_Md_isVowel (V 68 v3.toNatClampNeg)) = 0 then k27 v1 v2 (v3 + 1) (v4 + 0) V else k27 v1 v2 (v3 + 1) (v4 + 1) V) else none)) else none))
theorem tb_Md_words_27 {L : xL} (k4 : Int32 → Int32 → Int32 → xV → Option (Int32 × xV)) (k27 : Int32 → Int32 → Int32 → Int32 → xV → Option (Int32 × xV)) (res : Int32 × xV) (hk4 : ∀ (v1 : Int32) (v2 : Int32) (v3 : Int32) (V : xV), k4 v1 v2 v3 V = some res → X M_Md_words (xRm (3) M_Md_words) (xZ M_Md_words (fun o h' => o = some (.int res.1) ∧ h' = (SH, res.2, L))) SH V L 0 0 4 [(0, .ref 65), (1, .int v1), (2, .int v2), (3, .int v3)] []) (hk27 : ∀ (v1 : Int32) (v2 : Int32) (v3 : Int32) (v4 : Int32) (V : xV), k27 v1 v2 v3 v4 V = some res → X M_Md_words (xRm (3) M_Md_words) (xZ M_Md_words (fun o h' => o = some (.int res.1) ∧ h' = (SH, res.2, L))) SH V L 0 0 27 [(0, .ref 65), (1, .int v1), (2, .int v2), (3, .int v3), (4, .int v4)] []) (v1 : Int32) (v2 : Int32) (v3 : Int32) (v4 : Int32) (V : xV) (h : b_Md_words_27 k4 k27 v1 v2 v3 v4 V = some res) : X M_Md_words (xRm (3) M_Md_words) (xZ M_Md_words (fun o h' => o = some (.int res.1) ∧ h' = (SH, res.2, L))) SH V L 0 0 27 [(0, .ref 65), (1, .int v1), (2, .int v2), (3, .int v3), (4, .int v4)] [] := by
  unfold b_Md_words_27 at h
  refine x_iload_n 3 d_Md_words_27 rfl rfl ?_
  refine x_aload_n 0 d_Md_words_28 rfl rfl ?_
  refine x_getI f_Md_107 sh_65 rfl d_Md_words_29 ?_
  refine x_icmp_ge 75 d_Md_words_32 (by decide) (fun c7 => ?_) (fun c7 => ?_)
  · replace h := xpos c7 h
    exact tb_Md_words_75 (L := L) k4 res hk4 v1 v2 v3 v4 V h
  · replace h := xneg c7 h
    refine x_aload_n 0 d_Md_words_35 rfl rfl ?_
    refine x_getP (q := 68) f_Md_16 sh_65 rfl d_Md_words_36 ?_
    refine x_iload_n 3 d_Md_words_39 rfl rfl ?_
    obtain ⟨c8, h⟩ := xguard h
    refine x_baload sh_68 c8 d_Md_words_40 ?_
    refine x_callS0 e_Md_365 (t_Md_isSmall (V 68 v3.toNatClampNeg) V L _ rfl) rfl rfl rfl (Nat.le_of_ble_eq_true rfl) (xfit_of (by omega) (Nat.le_of_ble_eq_true rfl)) (Nat.zero_le _) (Nat.zero_le _) d_Md_words_41 ?_
    refine x_if_eq 75 d_Md_words_44 (by decide) (fun c10 => ?_) (fun c10 => ?_)
    · replace h := xpos c10 h
      exact tb_Md_words_75 (L := L) k4 res hk4 v1 v2 v3 v4 V h
    · replace h := xneg c10 h
      refine x_iload 4 d_Md_words_47 rfl ?_
      refine x_aload_n 0 d_Md_words_49 rfl rfl ?_
      refine x_getP (q := 68) f_Md_16 sh_65 rfl d_Md_words_50 ?_
      refine x_iload_n 3 d_Md_words_53 rfl rfl ?_
      obtain ⟨c11, h⟩ := xguard h
      refine x_baload sh_68 c11 d_Md_words_54 ?_
      refine x_callS0 e_Md_368 (t_Md_isVowel (V 68 v3.toNatClampNeg) V L _ rfl) rfl rfl rfl (Nat.le_of_ble_eq_true rfl) (xfit_of (by omega) (Nat.le_of_ble_eq_true rfl)) (Nat.zero_le _) (Nat.zero_le _) d_Md_words_55 ?_
      refine x_if_eq 65 d_Md_words_58 (by decide) (fun c13 => ?_) (fun c13 => ?_)
      · replace h := xpos c13 h
        refine x_iconst 0 d_Md_words_65 (by decide) ?_
        refine x_iadd d_Md_words_66 ?_
        refine x_istore [(4, .int (v4 + 0)), (0, .ref 65), (1, .int v1), (2, .int v2), (3, .int v3)] d_Md_words_67 (Nat.le_of_ble_eq_true rfl) rfl ?_
        refine x_iinc 4 1 [(3, .int (v3 + 1)), (4, .int (v4 + 0)), (0, .ref 65), (1, .int v1), (2, .int v2)] d_Md_words_69 rfl (by decide) (Nat.le_of_ble_eq_true rfl) rfl ?_
        refine x_goto 27 d_Md_words_72 (by decide) ?_
        refine x_pick [2, 3, 4, 0, 1] rfl ?_
        exact hk27 v1 v2 (v3 + 1) (v4 + 0) V h
      · replace h := xneg c13 h
        refine x_iconst 1 d_Md_words_61 (by decide) ?_
        refine x_goto 66 d_Md_words_62 (by decide) ?_
        refine x_iadd d_Md_words_66 ?_
        refine x_istore [(4, .int (v4 + 1)), (0, .ref 65), (1, .int v1), (2, .int v2), (3, .int v3)] d_Md_words_67 (Nat.le_of_ble_eq_true rfl) rfl ?_
        refine x_iinc 4 1 [(3, .int (v3 + 1)), (4, .int (v4 + 1)), (0, .ref 65), (1, .int v1), (2, .int v2)] d_Md_words_69 rfl (by decide) (Nat.le_of_ble_eq_true rfl) rfl ?_
        refine x_goto 27 d_Md_words_72 (by decide) ?_
        refine x_pick [2, 3, 4, 0, 1] rfl ?_
        exact hk27 v1 v2 (v3 + 1) (v4 + 1) V h
def g_Md_words_27 (k4 : Int32 → Int32 → Int32 → xV → Option (Int32 × xV)) : Nat → Int32 → Int32 → Int32 → Int32 → xV → Option (Int32 × xV)
  | 0, _, _, _, _, _ => none
  | n + 1, v1, v2, v3, v4, V => b_Md_words_27 k4 (g_Md_words_27 k4 n) v1 v2 v3 v4 V
theorem tg_Md_words_27 {L : xL} (k4 : Int32 → Int32 → Int32 → xV → Option (Int32 × xV)) (res : Int32 × xV) (hk4 : ∀ (v1 : Int32) (v2 : Int32) (v3 : Int32) (V : xV), k4 v1 v2 v3 V = some res → X M_Md_words (xRm (3) M_Md_words) (xZ M_Md_words (fun o h' => o = some (.int res.1) ∧ h' = (SH, res.2, L))) SH V L 0 0 4 [(0, .ref 65), (1, .int v1), (2, .int v2), (3, .int v3)] []) : ∀ (n : Nat) (v1 : Int32) (v2 : Int32) (v3 : Int32) (v4 : Int32) (V : xV), g_Md_words_27 k4 n v1 v2 v3 v4 V = some res → X M_Md_words (xRm (3) M_Md_words) (xZ M_Md_words (fun o h' => o = some (.int res.1) ∧ h' = (SH, res.2, L))) SH V L 0 0 27 [(0, .ref 65), (1, .int v1), (2, .int v2), (3, .int v3), (4, .int v4)] []
  | 0, _, _, _, _, _, h => by cases h
  | n + 1, v1, v2, v3, v4, V, h => tb_Md_words_27 (L := L) k4 (g_Md_words_27 k4 n) res hk4 (tg_Md_words_27 (L := L) k4 res hk4 n) v1 v2 v3 v4 V h
def b_Md_words_4 (k4 : Int32 → Int32 → Int32 → xV → Option (Int32 × xV)) (v1 : Int32) (v2 : Int32) (v3 : Int32) (V : xV) : Option (Int32 × xV) := (if (V 65 3) ≤ v3 then some (v2, V) else (if xI v3 300 = true then (if (f_Md_isSmall (V 68 v3.toNatClampNeg)) = 0 then (if xI v3 300 = true then (if ¬ (V 68 v3.toNatClampNeg) = 32 then some (0, V) else k4 v1 v2 (v3 + 1) V) else none) else g_Md_words_27 k4 2000 v1 v2 v3 v1 V) else none))
theorem tb_Md_words_4 {L : xL} (k4 : Int32 → Int32 → Int32 → xV → Option (Int32 × xV)) (res : Int32 × xV) (hk4 : ∀ (v1 : Int32) (v2 : Int32) (v3 : Int32) (V : xV), k4 v1 v2 v3 V = some res → X M_Md_words (xRm (3) M_Md_words) (xZ M_Md_words (fun o h' => o = some (.int res.1) ∧ h' = (SH, res.2, L))) SH V L 0 0 4 [(0, .ref 65), (1, .int v1), (2, .int v2), (3, .int v3)] []) (v1 : Int32) (v2 : Int32) (v3 : Int32) (V : xV) (h : b_Md_words_4 k4 v1 v2 v3 V = some res) : X M_Md_words (xRm (3) M_Md_words) (xZ M_Md_words (fun o h' => o = some (.int res.1) ∧ h' = (SH, res.2, L))) SH V L 0 0 4 [(0, .ref 65), (1, .int v1), (2, .int v2), (3, .int v3)] [] := by
  unfold b_Md_words_4 at h
  refine x_iload_n 3 d_Md_words_4 rfl rfl ?_
  refine x_aload_n 0 d_Md_words_5 rfl rfl ?_
  refine x_getI f_Md_107 sh_65 rfl d_Md_words_6 ?_
  refine x_icmp_ge 111 d_Md_words_9 (by decide) (fun c1 => ?_) (fun c1 => ?_)
  · replace h := xpos c1 h
    refine x_iload_n 2 d_Md_words_111 rfl rfl ?_
    obtain rfl := Option.some.inj h
    exact x_ireturn rfl d_Md_words_112 (Nat.le_refl _) (Nat.le_refl _) ⟨rfl, rfl⟩
  · replace h := xneg c1 h
    refine x_aload_n 0 d_Md_words_12 rfl rfl ?_
    refine x_getP (q := 68) f_Md_16 sh_65 rfl d_Md_words_13 ?_
    refine x_iload_n 3 d_Md_words_16 rfl rfl ?_
    obtain ⟨c2, h⟩ := xguard h
    refine x_baload sh_68 c2 d_Md_words_17 ?_
    refine x_callS0 e_Md_365 (t_Md_isSmall (V 68 v3.toNatClampNeg) V L _ rfl) rfl rfl rfl (Nat.le_of_ble_eq_true rfl) (xfit_of (by omega) (Nat.le_of_ble_eq_true rfl)) (Nat.zero_le _) (Nat.zero_le _) d_Md_words_18 ?_
    refine x_if_eq 92 d_Md_words_21 (by decide) (fun c4 => ?_) (fun c4 => ?_)
    · replace h := xpos c4 h
      refine x_aload_n 0 d_Md_words_92 rfl rfl ?_
      refine x_getP (q := 68) f_Md_16 sh_65 rfl d_Md_words_93 ?_
      refine x_iload_n 3 d_Md_words_96 rfl rfl ?_
      obtain ⟨c5, h⟩ := xguard h
      refine x_baload sh_68 c5 d_Md_words_97 ?_
      refine x_bipush 32 d_Md_words_98 (by decide) ?_
      refine x_icmp_ne 109 d_Md_words_100 (by decide) (fun c6 => ?_) (fun c6 => ?_)
      · replace h := xpos c6 h
        refine x_iconst 0 d_Md_words_109 (by decide) ?_
        obtain rfl := Option.some.inj h
        exact x_ireturn rfl d_Md_words_110 (Nat.le_refl _) (Nat.le_refl _) ⟨rfl, rfl⟩
      · replace h := xneg c6 h
        refine x_iinc 3 1 [(3, .int (v3 + 1)), (0, .ref 65), (1, .int v1), (2, .int v2)] d_Md_words_103 rfl (by decide) (Nat.le_of_ble_eq_true rfl) rfl ?_
        refine x_goto 4 d_Md_words_106 (by decide) ?_
        refine x_pick [1, 2, 3, 0] rfl ?_
        exact hk4 v1 v2 (v3 + 1) V h
    · replace h := xneg c4 h
      refine x_iload_n 1 d_Md_words_24 rfl rfl ?_
      refine x_istore [(4, .int v1), (0, .ref 65), (1, .int v1), (2, .int v2), (3, .int v3)] d_Md_words_25 (Nat.le_of_ble_eq_true rfl) rfl ?_
      refine x_pick [1, 2, 3, 4, 0] rfl ?_
      exact tg_Md_words_27 (L := L) k4 res hk4 _ v1 v2 v3 v1 V h
def g_Md_words_4  : Nat → Int32 → Int32 → Int32 → xV → Option (Int32 × xV)
  | 0, _, _, _, _ => none
  | n + 1, v1, v2, v3, V => b_Md_words_4 (g_Md_words_4  n) v1 v2 v3 V
theorem tg_Md_words_4 {L : xL} (res : Int32 × xV)  : ∀ (n : Nat) (v1 : Int32) (v2 : Int32) (v3 : Int32) (V : xV), g_Md_words_4  n v1 v2 v3 V = some res → X M_Md_words (xRm (3) M_Md_words) (xZ M_Md_words (fun o h' => o = some (.int res.1) ∧ h' = (SH, res.2, L))) SH V L 0 0 4 [(0, .ref 65), (1, .int v1), (2, .int v2), (3, .int v3)] []
  | 0, _, _, _, _, h => by cases h
  | n + 1, v1, v2, v3, V, h => tb_Md_words_4 (L := L) (g_Md_words_4  n) res (tg_Md_words_4 (L := L) res n) v1 v2 v3 V h
def f_Md_words (a1 : Int32) (V : xV) : Option (Int32 × xV) := g_Md_words_4 2000 a1 0 0 V
theorem t_Md_words (a1 : Int32) (V : xV) (L : xL) (res : Int32 × xV) (h : f_Md_words a1 V = some res) : xRuns (3) M_Md_words [.ref 65, .int a1] (SH, V, L) (fun o h' => o = some (.int res.1) ∧ h' = (SH, res.2, L)) := by
  refine xRuns_of (by decide) (Nat.le_of_ble_eq_true rfl) ?_
  unfold f_Md_words at h
  show X M_Md_words (xRm (3) M_Md_words) (xZ M_Md_words (fun o h' => o = some (.int res.1) ∧ h' = (SH, res.2, L))) SH V L 0 0 0 [(0, .ref 65), (1, .int a1)] []
  refine x_iconst 0 d_Md_words_0 (by decide) ?_
  refine x_istore_n [(2, .int 0), (0, .ref 65), (1, .int a1)] d_Md_words_1 rfl (Nat.le_of_ble_eq_true rfl) rfl ?_
  refine x_iconst 0 d_Md_words_2 (by decide) ?_
  refine x_istore_n [(3, .int 0), (2, .int 0), (0, .ref 65), (1, .int a1)] d_Md_words_3 rfl (Nat.le_of_ble_eq_true rfl) rfl ?_
  refine x_pick [2, 3, 1, 0] rfl ?_
  exact tg_Md_words_4 (L := L) res _ a1 0 0 V h
-- Md_songOf
def f_Md_songOf (a1 : Int32) (a2 : Int32) (V : xV) : Option (Int32 × xV) := (if (f_Md_isDay a1) = 0 then some ((-1), V) else (if ¬ (f_Md_in a2 0 9) = 0 then (Option.bind (f_Md_words a2 V) fun p5 => (if p5.1 = 0 then some ((-1), p5.2) else (if (a1 + p5.1) ≤ 30 then some (p5.1, p5.2) else some ((-1), p5.2)))) else some ((-1), V)))
theorem t_Md_songOf (a1 : Int32) (a2 : Int32) (V : xV) (L : xL) (res : Int32 × xV) (h : f_Md_songOf a1 a2 V = some res) : xRuns (4) M_Md_songOf [.ref 65, .int a1, .int a2] (SH, V, L) (fun o h' => o = some (.int res.1) ∧ h' = (SH, res.2, L)) := by
  refine xRuns_of (by decide) (Nat.le_of_ble_eq_true rfl) ?_
  unfold f_Md_songOf at h
  show X M_Md_songOf (xRm (4) M_Md_songOf) (xZ M_Md_songOf (fun o h' => o = some (.int res.1) ∧ h' = (SH, res.2, L))) SH V L 0 0 0 [(0, .ref 65), (1, .int a1), (2, .int a2)] []
  refine x_iload_n 1 d_Md_songOf_0 rfl rfl ?_
  refine x_callS0 e_Md_97 (t_Md_isDay a1 V L _ rfl) rfl rfl rfl (Nat.le_of_ble_eq_true rfl) (xfit_of (by omega) (Nat.le_of_ble_eq_true rfl)) (Nat.zero_le _) (Nat.zero_le _) d_Md_songOf_1 ?_
  refine x_if_eq 17 d_Md_songOf_4 (by decide) (fun c2 => ?_) (fun c2 => ?_)
  · replace h := xpos c2 h
    refine x_iconst (-1) d_Md_songOf_17 (by decide) ?_
    obtain rfl := Option.some.inj h
    exact x_ireturn rfl d_Md_songOf_18 (Nat.le_refl _) (Nat.le_refl _) ⟨rfl, rfl⟩
  · replace h := xneg c2 h
    refine x_iload_n 2 d_Md_songOf_7 rfl rfl ?_
    refine x_iconst 0 d_Md_songOf_8 (by decide) ?_
    refine x_bipush 9 d_Md_songOf_9 (by decide) ?_
    refine x_callS0 e_Md_89 (t_Md_in a2 0 9 V L _ rfl) rfl rfl rfl (Nat.le_of_ble_eq_true rfl) (xfit_of (by omega) (Nat.le_of_ble_eq_true rfl)) (Nat.zero_le _) (Nat.zero_le _) d_Md_songOf_11 ?_
    refine x_if_ne 19 d_Md_songOf_14 (by decide) (fun c4 => ?_) (fun c4 => ?_)
    · replace h := xpos c4 h
      refine x_aload_n 0 d_Md_songOf_19 rfl rfl ?_
      refine x_iload_n 2 d_Md_songOf_20 rfl rfl ?_
      obtain ⟨p5, e6, h⟩ := xbind h
      refine x_callV0 e_Md_371 sh_65 rfl (t_Md_words a2 V L _ e6) rfl rfl rfl (Nat.le_of_ble_eq_true rfl) (xfit_of (by omega) (Nat.le_of_ble_eq_true rfl)) (Nat.zero_le _) (Nat.zero_le _) d_Md_songOf_21 ?_
      refine x_istore_n [(3, .int p5.1), (0, .ref 65), (1, .int a1), (2, .int a2)] d_Md_songOf_24 rfl (Nat.le_of_ble_eq_true rfl) rfl ?_
      refine x_iload_n 0 d_Md_songOf_25 rfl rfl ?_
      refine x_if_eq 37 d_Md_songOf_26 (by decide) (fun c7 => ?_) (fun c7 => ?_)
      · replace h := xpos c7 h
        refine x_iconst (-1) d_Md_songOf_37 (by decide) ?_
        refine x_goto 42 d_Md_songOf_38 (by decide) ?_
        obtain rfl := Option.some.inj h
        exact x_ireturn rfl d_Md_songOf_42 (Nat.le_refl _) (Nat.le_refl _) ⟨rfl, rfl⟩
      · replace h := xneg c7 h
        refine x_iload_n 2 d_Md_songOf_29 rfl rfl ?_
        refine x_iload_n 0 d_Md_songOf_30 rfl rfl ?_
        refine x_iadd d_Md_songOf_31 ?_
        refine x_bipush 30 d_Md_songOf_32 (by decide) ?_
        refine x_icmp_le 41 d_Md_songOf_34 (by decide) (fun c8 => ?_) (fun c8 => ?_)
        · replace h := xpos c8 h
          refine x_iload_n 0 d_Md_songOf_41 rfl rfl ?_
          obtain rfl := Option.some.inj h
          exact x_ireturn rfl d_Md_songOf_42 (Nat.le_refl _) (Nat.le_refl _) ⟨rfl, rfl⟩
        · replace h := xneg c8 h
          refine x_iconst (-1) d_Md_songOf_37 (by decide) ?_
          refine x_goto 42 d_Md_songOf_38 (by decide) ?_
          obtain rfl := Option.some.inj h
          exact x_ireturn rfl d_Md_songOf_42 (Nat.le_refl _) (Nat.le_refl _) ⟨rfl, rfl⟩
    · replace h := xneg c4 h
      refine x_iconst (-1) d_Md_songOf_17 (by decide) ?_
      obtain rfl := Option.some.inj h
      exact x_ireturn rfl d_Md_songOf_18 (Nat.le_refl _) (Nat.le_refl _) ⟨rfl, rfl⟩
-- Md_sing
def b_Md_sing_17 (k17 : Int32 → Int32 → Int32 → xV → Option (Int32 × xV)) (v1 : Int32) (v3 : Int32) (v4 : Int32) (V : xV) : Option (Int32 × xV) := (if v3 ≤ v4 then some (v3, x2 V 65 3 0) else (if xI v4 300 = true then (if xI ((10 + v1) + v4) 270 = true then k17 v1 v3 (v4 + 1) (x2 V 66 (((10 + v1) + v4).toNatClampNeg) (V 86 v4.toNatClampNeg)) else none) else none))
theorem tb_Md_sing_17 {L : xL} (k17 : Int32 → Int32 → Int32 → xV → Option (Int32 × xV)) (res : Int32 × xV) (hk17 : ∀ (v1 : Int32) (v3 : Int32) (v4 : Int32) (V : xV), k17 v1 v3 v4 V = some res → X M_Md_sing (xRm (5) M_Md_sing) (xZ M_Md_sing (fun o h' => o = some (.int res.1) ∧ h' = (SH, res.2, L))) SH V L 0 0 17 [(0, .ref 65), (1, .int v1), (3, .int v3), (4, .int v4)] []) (v1 : Int32) (v3 : Int32) (v4 : Int32) (V : xV) (h : b_Md_sing_17 k17 v1 v3 v4 V = some res) : X M_Md_sing (xRm (5) M_Md_sing) (xZ M_Md_sing (fun o h' => o = some (.int res.1) ∧ h' = (SH, res.2, L))) SH V L 0 0 17 [(0, .ref 65), (1, .int v1), (3, .int v3), (4, .int v4)] [] := by
  unfold b_Md_sing_17 at h
  refine x_iload 3 d_Md_sing_17 rfl ?_
  refine x_iload_n 2 d_Md_sing_19 rfl rfl ?_
  refine x_icmp_ge 48 d_Md_sing_20 (by decide) (fun c4 => ?_) (fun c4 => ?_)
  · replace h := xpos c4 h
    refine x_aload_n 0 d_Md_sing_48 rfl rfl ?_
    refine x_iconst 0 d_Md_sing_49 (by decide) ?_
    refine x_putI f_Md_107 sh_65 rfl rfl rfl d_Md_sing_50 ?_
    refine x_iload_n 2 d_Md_sing_53 rfl rfl ?_
    obtain rfl := Option.some.inj h
    exact x_ireturn rfl d_Md_sing_54 (Nat.le_refl _) (Nat.le_refl _) ⟨rfl, rfl⟩
  · replace h := xneg c4 h
    refine x_aload_n 0 d_Md_sing_23 rfl rfl ?_
    refine x_getP (q := 66) f_Md_7 sh_65 rfl d_Md_sing_24 ?_
    refine x_bipush 10 d_Md_sing_27 (by decide) ?_
    refine x_iload_n 1 d_Md_sing_29 rfl rfl ?_
    refine x_iadd d_Md_sing_30 ?_
    refine x_iload 3 d_Md_sing_31 rfl ?_
    refine x_iadd d_Md_sing_33 ?_
    refine x_aload_n 0 d_Md_sing_34 rfl rfl ?_
    refine x_getP (q := 86) f_Md_82 sh_65 rfl d_Md_sing_35 ?_
    refine x_iload 3 d_Md_sing_38 rfl ?_
    obtain ⟨c5, h⟩ := xguard h
    refine x_iaload sh_86 c5 d_Md_sing_40 ?_
    obtain ⟨c6, h⟩ := xguard h
    refine x_iastore sh_66 c6 d_Md_sing_41 ?_
    refine x_iinc 3 1 [(4, .int (v4 + 1)), (0, .ref 65), (1, .int v1), (3, .int v3)] d_Md_sing_42 rfl (by decide) (Nat.le_of_ble_eq_true rfl) rfl ?_
    refine x_goto 17 d_Md_sing_45 (by decide) ?_
    refine x_pick [1, 2, 3, 0] rfl ?_
    exact hk17 v1 v3 (v4 + 1) (x2 V 66 (((10 + v1) + v4).toNatClampNeg) (V 86 v4.toNatClampNeg)) h
def g_Md_sing_17  : Nat → Int32 → Int32 → Int32 → xV → Option (Int32 × xV)
  | 0, _, _, _, _ => none
  | n + 1, v1, v3, v4, V => b_Md_sing_17 (g_Md_sing_17  n) v1 v3 v4 V
theorem tg_Md_sing_17 {L : xL} (res : Int32 × xV)  : ∀ (n : Nat) (v1 : Int32) (v3 : Int32) (v4 : Int32) (V : xV), g_Md_sing_17  n v1 v3 v4 V = some res → X M_Md_sing (xRm (5) M_Md_sing) (xZ M_Md_sing (fun o h' => o = some (.int res.1) ∧ h' = (SH, res.2, L))) SH V L 0 0 17 [(0, .ref 65), (1, .int v1), (3, .int v3), (4, .int v4)] []
  | 0, _, _, _, _, h => by cases h
  | n + 1, v1, v3, v4, V, h => tb_Md_sing_17 (L := L) (g_Md_sing_17  n) res (tg_Md_sing_17 (L := L) res n) v1 v3 v4 V h
def f_Md_sing (a1 : Int32) (a2 : Int32) (V : xV) : Option (Int32 × xV) := (Option.bind (f_Md_songOf a1 a2 V) fun p1 => (if ¬ p1.1 = (-1) then g_Md_sing_17 2000 a1 p1.1 0 p1.2 else some ((-1), p1.2)))
theorem t_Md_sing (a1 : Int32) (a2 : Int32) (V : xV) (L : xL) (res : Int32 × xV) (h : f_Md_sing a1 a2 V = some res) : xRuns (5) M_Md_sing [.ref 65, .int a1, .int a2] (SH, V, L) (fun o h' => o = some (.int res.1) ∧ h' = (SH, res.2, L)) := by
  refine xRuns_of (by decide) (Nat.le_of_ble_eq_true rfl) ?_
  unfold f_Md_sing at h
  show X M_Md_sing (xRm (5) M_Md_sing) (xZ M_Md_sing (fun o h' => o = some (.int res.1) ∧ h' = (SH, res.2, L))) SH V L 0 0 0 [(0, .ref 65), (1, .int a1), (2, .int a2)] []
  refine x_aload_n 0 d_Md_sing_0 rfl rfl ?_
  refine x_iload_n 1 d_Md_sing_1 rfl rfl ?_
  refine x_iload_n 2 d_Md_sing_2 rfl rfl ?_
  obtain ⟨p1, e2, h⟩ := xbind h
  refine x_callV0 e_Md_374 sh_65 rfl (t_Md_songOf a1 a2 V L _ e2) rfl rfl rfl (Nat.le_of_ble_eq_true rfl) (xfit_of (by omega) (Nat.le_of_ble_eq_true rfl)) (Nat.zero_le _) (Nat.zero_le _) d_Md_sing_3 ?_
  refine x_istore_n [(3, .int p1.1), (0, .ref 65), (1, .int a1), (2, .int a2)] d_Md_sing_6 rfl (Nat.le_of_ble_eq_true rfl) rfl ?_
  refine x_iload_n 0 d_Md_sing_7 rfl rfl ?_
  refine x_iconst (-1) d_Md_sing_8 (by decide) ?_
  refine x_icmp_ne 14 d_Md_sing_9 (by decide) (fun c3 => ?_) (fun c3 => ?_)
  · replace h := xpos c3 h
    refine x_iconst 0 d_Md_sing_14 (by decide) ?_
    refine x_istore [(4, .int 0), (3, .int p1.1), (0, .ref 65), (1, .int a1), (2, .int a2)] d_Md_sing_15 (Nat.le_of_ble_eq_true rfl) rfl ?_
    refine x_pick [2, 3, 1, 0] rfl ?_
    exact tg_Md_sing_17 (L := L) res _ a1 p1.1 0 p1.2 h
  · replace h := xneg c3 h
    refine x_iconst (-1) d_Md_sing_12 (by decide) ?_
    obtain rfl := Option.some.inj h
    exact x_ireturn rfl d_Md_sing_13 (Nat.le_refl _) (Nat.le_refl _) ⟨rfl, rfl⟩
-- Md_heard
def b_Md_heard_13 (k13 : Int32 → Int32 → Int32 → Int32 → xV → Option (Int32 × xV)) (v1 : Int32) (v3 : Int32) (v4 : Int32) (v5 : Int32) (V : xV) : Option (Int32 × xV) := (if v3 ≤ v5 then (if ¬ v3 = (-1) then some (v4, V) else some ((-1), V)) else (if xI ((10 + v1) + v5) 270 = true then (if xI v5 300 = true then (if ¬ (V 66 ((10 + v1) + v5).toNatClampNeg) = (V 86 v5.toNatClampNeg) then k13 v1 v3 (v4 + 0) (v5 + 1) V else k13 v1 v3 (v4 + 1) (v5 + 1) V) else none) else none))
theorem tb_Md_heard_13 {L : xL} (k13 : Int32 → Int32 → Int32 → Int32 → xV → Option (Int32 × xV)) (res : Int32 × xV) (hk13 : ∀ (v1 : Int32) (v3 : Int32) (v4 : Int32) (v5 : Int32) (V : xV), k13 v1 v3 v4 v5 V = some res → X M_Md_heard (xRm (5) M_Md_heard) (xZ M_Md_heard (fun o h' => o = some (.int res.1) ∧ h' = (SH, res.2, L))) SH V L 0 0 13 [(0, .ref 65), (1, .int v1), (3, .int v3), (4, .int v4), (5, .int v5)] []) (v1 : Int32) (v3 : Int32) (v4 : Int32) (v5 : Int32) (V : xV) (h : b_Md_heard_13 k13 v1 v3 v4 v5 V = some res) : X M_Md_heard (xRm (5) M_Md_heard) (xZ M_Md_heard (fun o h' => o = some (.int res.1) ∧ h' = (SH, res.2, L))) SH V L 0 0 13 [(0, .ref 65), (1, .int v1), (3, .int v3), (4, .int v4), (5, .int v5)] [] := by
  unfold b_Md_heard_13 at h
  refine x_iload 4 d_Md_heard_13 rfl ?_
  refine x_iload_n 2 d_Md_heard_15 rfl rfl ?_
  refine x_icmp_ge 57 d_Md_heard_16 (by decide) (fun c3 => ?_) (fun c3 => ?_)
  · replace h := xpos c3 h
    refine x_iload_n 2 d_Md_heard_57 rfl rfl ?_
    refine x_iconst (-1) d_Md_heard_58 (by decide) ?_
    refine x_icmp_ne 66 d_Md_heard_59 (by decide) (fun c4 => ?_) (fun c4 => ?_)
    · replace h := xpos c4 h
      refine x_iload 3 d_Md_heard_66 rfl ?_
      obtain rfl := Option.some.inj h
      exact x_ireturn rfl d_Md_heard_68 (Nat.le_refl _) (Nat.le_refl _) ⟨rfl, rfl⟩
    · replace h := xneg c4 h
      refine x_iconst (-1) d_Md_heard_62 (by decide) ?_
      refine x_goto 68 d_Md_heard_63 (by decide) ?_
      obtain rfl := Option.some.inj h
      exact x_ireturn rfl d_Md_heard_68 (Nat.le_refl _) (Nat.le_refl _) ⟨rfl, rfl⟩
  · replace h := xneg c3 h
    refine x_iload 3 d_Md_heard_19 rfl ?_
    refine x_aload_n 0 d_Md_heard_21 rfl rfl ?_
    refine x_getP (q := 66) f_Md_7 sh_65 rfl d_Md_heard_22 ?_
    refine x_bipush 10 d_Md_heard_25 (by decide) ?_
    refine x_iload_n 1 d_Md_heard_27 rfl rfl ?_
    refine x_iadd d_Md_heard_28 ?_
    refine x_iload 4 d_Md_heard_29 rfl ?_
    refine x_iadd d_Md_heard_31 ?_
    obtain ⟨c5, h⟩ := xguard h
    refine x_iaload sh_66 c5 d_Md_heard_32 ?_
    refine x_aload_n 0 d_Md_heard_33 rfl rfl ?_
    refine x_getP (q := 86) f_Md_82 sh_65 rfl d_Md_heard_34 ?_
    refine x_iload 4 d_Md_heard_37 rfl ?_
    obtain ⟨c6, h⟩ := xguard h
    refine x_iaload sh_86 c6 d_Md_heard_39 ?_
    refine x_icmp_ne 47 d_Md_heard_40 (by decide) (fun c7 => ?_) (fun c7 => ?_)
    · replace h := xpos c7 h
      refine x_iconst 0 d_Md_heard_47 (by decide) ?_
      refine x_iadd d_Md_heard_48 ?_
      refine x_istore [(4, .int (v4 + 0)), (0, .ref 65), (1, .int v1), (3, .int v3), (5, .int v5)] d_Md_heard_49 (Nat.le_of_ble_eq_true rfl) rfl ?_
      refine x_iinc 4 1 [(5, .int (v5 + 1)), (4, .int (v4 + 0)), (0, .ref 65), (1, .int v1), (3, .int v3)] d_Md_heard_51 rfl (by decide) (Nat.le_of_ble_eq_true rfl) rfl ?_
      refine x_goto 13 d_Md_heard_54 (by decide) ?_
      refine x_pick [2, 3, 4, 1, 0] rfl ?_
      exact hk13 v1 v3 (v4 + 0) (v5 + 1) V h
    · replace h := xneg c7 h
      refine x_iconst 1 d_Md_heard_43 (by decide) ?_
      refine x_goto 48 d_Md_heard_44 (by decide) ?_
      refine x_iadd d_Md_heard_48 ?_
      refine x_istore [(4, .int (v4 + 1)), (0, .ref 65), (1, .int v1), (3, .int v3), (5, .int v5)] d_Md_heard_49 (Nat.le_of_ble_eq_true rfl) rfl ?_
      refine x_iinc 4 1 [(5, .int (v5 + 1)), (4, .int (v4 + 1)), (0, .ref 65), (1, .int v1), (3, .int v3)] d_Md_heard_51 rfl (by decide) (Nat.le_of_ble_eq_true rfl) rfl ?_
      refine x_goto 13 d_Md_heard_54 (by decide) ?_
      refine x_pick [2, 3, 4, 1, 0] rfl ?_
      exact hk13 v1 v3 (v4 + 1) (v5 + 1) V h
def g_Md_heard_13  : Nat → Int32 → Int32 → Int32 → Int32 → xV → Option (Int32 × xV)
  | 0, _, _, _, _, _ => none
  | n + 1, v1, v3, v4, v5, V => b_Md_heard_13 (g_Md_heard_13  n) v1 v3 v4 v5 V
theorem tg_Md_heard_13 {L : xL} (res : Int32 × xV)  : ∀ (n : Nat) (v1 : Int32) (v3 : Int32) (v4 : Int32) (v5 : Int32) (V : xV), g_Md_heard_13  n v1 v3 v4 v5 V = some res → X M_Md_heard (xRm (5) M_Md_heard) (xZ M_Md_heard (fun o h' => o = some (.int res.1) ∧ h' = (SH, res.2, L))) SH V L 0 0 13 [(0, .ref 65), (1, .int v1), (3, .int v3), (4, .int v4), (5, .int v5)] []
  | 0, _, _, _, _, _, h => by cases h
  | n + 1, v1, v3, v4, v5, V, h => tb_Md_heard_13 (L := L) (g_Md_heard_13  n) res (tg_Md_heard_13 (L := L) res n) v1 v3 v4 v5 V h
def f_Md_heard (a1 : Int32) (a2 : Int32) (V : xV) : Option (Int32 × xV) := (Option.bind (f_Md_songOf a1 a2 V) fun p1 => g_Md_heard_13 2000 a1 p1.1 0 0 p1.2)
theorem t_Md_heard (a1 : Int32) (a2 : Int32) (V : xV) (L : xL) (res : Int32 × xV) (h : f_Md_heard a1 a2 V = some res) : xRuns (5) M_Md_heard [.ref 65, .int a1, .int a2] (SH, V, L) (fun o h' => o = some (.int res.1) ∧ h' = (SH, res.2, L)) := by
  refine xRuns_of (by decide) (Nat.le_of_ble_eq_true rfl) ?_
  unfold f_Md_heard at h
  show X M_Md_heard (xRm (5) M_Md_heard) (xZ M_Md_heard (fun o h' => o = some (.int res.1) ∧ h' = (SH, res.2, L))) SH V L 0 0 0 [(0, .ref 65), (1, .int a1), (2, .int a2)] []
  refine x_aload_n 0 d_Md_heard_0 rfl rfl ?_
  refine x_iload_n 1 d_Md_heard_1 rfl rfl ?_
  refine x_iload_n 2 d_Md_heard_2 rfl rfl ?_
  obtain ⟨p1, e2, h⟩ := xbind h
  refine x_callV0 e_Md_374 sh_65 rfl (t_Md_songOf a1 a2 V L _ e2) rfl rfl rfl (Nat.le_of_ble_eq_true rfl) (xfit_of (by omega) (Nat.le_of_ble_eq_true rfl)) (Nat.zero_le _) (Nat.zero_le _) d_Md_heard_3 ?_
  refine x_istore_n [(3, .int p1.1), (0, .ref 65), (1, .int a1), (2, .int a2)] d_Md_heard_6 rfl (Nat.le_of_ble_eq_true rfl) rfl ?_
  refine x_iconst 0 d_Md_heard_7 (by decide) ?_
  refine x_istore [(4, .int 0), (3, .int p1.1), (0, .ref 65), (1, .int a1), (2, .int a2)] d_Md_heard_8 (Nat.le_of_ble_eq_true rfl) rfl ?_
  refine x_iconst 0 d_Md_heard_10 (by decide) ?_
  refine x_istore [(5, .int 0), (4, .int 0), (3, .int p1.1), (0, .ref 65), (1, .int a1), (2, .int a2)] d_Md_heard_11 (Nat.le_of_ble_eq_true rfl) rfl ?_
  refine x_pick [3, 4, 2, 1, 0] rfl ?_
  exact tg_Md_heard_13 (L := L) res _ a1 p1.1 0 0 p1.2 h
-- Md_copies
def b_Md_copies_2 (k2 : Int32 → Int32 → xV → Option (xV)) (v1 : Int32) (v2 : Int32) (V : xV) : Option (xV) := (if 270 ≤ v2 then some V else (if v1 = 0 then (if xI v2 270 = true then (if xI v2 270 = true then k2 v1 (v2 + 1) (x2 V 66 v2.toNatClampNeg (V 67 v2.toNatClampNeg)) else none) else none) else (if xI v2 270 = true then (if xI v2 270 = true then k2 v1 (v2 + 1) (x2 V 67 v2.toNatClampNeg (V 66 v2.toNatClampNeg)) else none) else none)))
theorem tb_Md_copies_2 {L : xL} (k2 : Int32 → Int32 → xV → Option (xV)) (res : xV) (hk2 : ∀ (v1 : Int32) (v2 : Int32) (V : xV), k2 v1 v2 V = some res → X M_Md_copies (xRm (1) M_Md_copies) (xZ M_Md_copies (fun o h' => o = none ∧ h' = (SH, res, L))) SH V L 0 0 2 [(0, .ref 65), (1, .int v1), (2, .int v2)] []) (v1 : Int32) (v2 : Int32) (V : xV) (h : b_Md_copies_2 k2 v1 v2 V = some res) : X M_Md_copies (xRm (1) M_Md_copies) (xZ M_Md_copies (fun o h' => o = none ∧ h' = (SH, res, L))) SH V L 0 0 2 [(0, .ref 65), (1, .int v1), (2, .int v2)] [] := by
  unfold b_Md_copies_2 at h
  refine x_iload_n 2 d_Md_copies_2 rfl rfl ?_
  refine x_sipush 270 d_Md_copies_3 (by decide) ?_
  refine x_icmp_ge 46 d_Md_copies_6 (by decide) (fun c1 => ?_) (fun c1 => ?_)
  · replace h := xpos c1 h
    obtain rfl := Option.some.inj h
    exact x_return rfl d_Md_copies_46 (Nat.le_refl _) (Nat.le_refl _) ⟨rfl, rfl⟩
  · replace h := xneg c1 h
    refine x_iload_n 1 d_Md_copies_9 rfl rfl ?_
    refine x_if_eq 28 d_Md_copies_10 (by decide) (fun c2 => ?_) (fun c2 => ?_)
    · replace h := xpos c2 h
      refine x_aload_n 0 d_Md_copies_28 rfl rfl ?_
      refine x_getP (q := 66) f_Md_7 sh_65 rfl d_Md_copies_29 ?_
      refine x_iload_n 2 d_Md_copies_32 rfl rfl ?_
      refine x_aload_n 0 d_Md_copies_33 rfl rfl ?_
      refine x_getP (q := 67) f_Md_13 sh_65 rfl d_Md_copies_34 ?_
      refine x_iload_n 2 d_Md_copies_37 rfl rfl ?_
      obtain ⟨c3, h⟩ := xguard h
      refine x_iaload sh_67 c3 d_Md_copies_38 ?_
      obtain ⟨c4, h⟩ := xguard h
      refine x_iastore sh_66 c4 d_Md_copies_39 ?_
      refine x_iinc 2 1 [(2, .int (v2 + 1)), (0, .ref 65), (1, .int v1)] d_Md_copies_40 rfl (by decide) (Nat.le_of_ble_eq_true rfl) rfl ?_
      refine x_goto 2 d_Md_copies_43 (by decide) ?_
      refine x_pick [1, 2, 0] rfl ?_
      exact hk2 v1 (v2 + 1) (x2 V 66 v2.toNatClampNeg (V 67 v2.toNatClampNeg)) h
    · replace h := xneg c2 h
      refine x_aload_n 0 d_Md_copies_13 rfl rfl ?_
      refine x_getP (q := 67) f_Md_13 sh_65 rfl d_Md_copies_14 ?_
      refine x_iload_n 2 d_Md_copies_17 rfl rfl ?_
      refine x_aload_n 0 d_Md_copies_18 rfl rfl ?_
      refine x_getP (q := 66) f_Md_7 sh_65 rfl d_Md_copies_19 ?_
      refine x_iload_n 2 d_Md_copies_22 rfl rfl ?_
      obtain ⟨c5, h⟩ := xguard h
      refine x_iaload sh_66 c5 d_Md_copies_23 ?_
      obtain ⟨c6, h⟩ := xguard h
      refine x_iastore sh_67 c6 d_Md_copies_24 ?_
      refine x_goto 40 d_Md_copies_25 (by decide) ?_
      refine x_iinc 2 1 [(2, .int (v2 + 1)), (0, .ref 65), (1, .int v1)] d_Md_copies_40 rfl (by decide) (Nat.le_of_ble_eq_true rfl) rfl ?_
      refine x_goto 2 d_Md_copies_43 (by decide) ?_
      refine x_pick [1, 2, 0] rfl ?_
      exact hk2 v1 (v2 + 1) (x2 V 67 v2.toNatClampNeg (V 66 v2.toNatClampNeg)) h
def g_Md_copies_2  : Nat → Int32 → Int32 → xV → Option (xV)
  | 0, _, _, _ => none
  | n + 1, v1, v2, V => b_Md_copies_2 (g_Md_copies_2  n) v1 v2 V
theorem tg_Md_copies_2 {L : xL} (res : xV)  : ∀ (n : Nat) (v1 : Int32) (v2 : Int32) (V : xV), g_Md_copies_2  n v1 v2 V = some res → X M_Md_copies (xRm (1) M_Md_copies) (xZ M_Md_copies (fun o h' => o = none ∧ h' = (SH, res, L))) SH V L 0 0 2 [(0, .ref 65), (1, .int v1), (2, .int v2)] []
  | 0, _, _, _, h => by cases h
  | n + 1, v1, v2, V, h => tb_Md_copies_2 (L := L) (g_Md_copies_2  n) res (tg_Md_copies_2 (L := L) res n) v1 v2 V h
def f_Md_copies (a1 : Int32) (V : xV) : Option (xV) := g_Md_copies_2 2000 a1 0 V
theorem t_Md_copies (a1 : Int32) (V : xV) (L : xL) (res : xV) (h : f_Md_copies a1 V = some res) : xRuns (1) M_Md_copies [.ref 65, .int a1] (SH, V, L) (fun o h' => o = none ∧ h' = (SH, res, L)) := by
  refine xRuns_of (by decide) (Nat.le_of_ble_eq_true rfl) ?_
  unfold f_Md_copies at h
  show X M_Md_copies (xRm (1) M_Md_copies) (xZ M_Md_copies (fun o h' => o = none ∧ h' = (SH, res, L))) SH V L 0 0 0 [(0, .ref 65), (1, .int a1)] []
  refine x_iconst 0 d_Md_copies_0 (by decide) ?_
  refine x_istore_n [(2, .int 0), (0, .ref 65), (1, .int a1)] d_Md_copies_1 rfl (Nat.le_of_ble_eq_true rfl) rfl ?_
  refine x_pick [1, 2, 0] rfl ?_
  exact tg_Md_copies_2 (L := L) res _ a1 0 V h
-- Md_image
def f_Md_image (V : xV) : Option (Int32 × xV) := (Option.bind (f_Md_copies 1 V) fun p1 => some (p1 66 0, p1))
theorem t_Md_image  (V : xV) (L : xL) (res : Int32 × xV) (h : f_Md_image V = some res) : xRuns (2) M_Md_image [.ref 65] (SH, V, L) (fun o h' => o = some (.int res.1) ∧ h' = (SH, res.2, L)) := by
  refine xRuns_of (by decide) (Nat.le_of_ble_eq_true rfl) ?_
  unfold f_Md_image at h
  show X M_Md_image (xRm (2) M_Md_image) (xZ M_Md_image (fun o h' => o = some (.int res.1) ∧ h' = (SH, res.2, L))) SH V L 0 0 0 [(0, .ref 65)] []
  refine x_aload_n 0 d_Md_image_0 rfl rfl ?_
  refine x_iconst 1 d_Md_image_1 (by decide) ?_
  obtain ⟨p1, e2, h⟩ := xbind h
  refine x_callV0v e_Md_85 sh_65 rfl (t_Md_copies 1 V L _ e2) rfl rfl rfl (Nat.le_of_ble_eq_true rfl) (xfit_of (by omega) (Nat.le_of_ble_eq_true rfl)) (Nat.zero_le _) (Nat.zero_le _) d_Md_image_2 ?_
  refine x_aload_n 0 d_Md_image_5 rfl rfl ?_
  refine x_getP (q := 66) f_Md_7 sh_65 rfl d_Md_image_6 ?_
  refine x_iconst 0 d_Md_image_9 (by decide) ?_
  refine x_ialoadC 0 sh_66 (by decide) (by decide) d_Md_image_10 ?_
  obtain rfl := Option.some.inj h
  exact x_ireturn rfl d_Md_image_11 (Nat.le_refl _) (Nat.le_refl _) ⟨rfl, rfl⟩
-- Md_back
def f_Md_back (V : xV) : Option (Int32 × xV) := (Option.bind (f_Md_copies 0 V) fun p1 => some (p1 66 0, p1))
theorem t_Md_back  (V : xV) (L : xL) (res : Int32 × xV) (h : f_Md_back V = some res) : xRuns (2) M_Md_back [.ref 65] (SH, V, L) (fun o h' => o = some (.int res.1) ∧ h' = (SH, res.2, L)) := by
  refine xRuns_of (by decide) (Nat.le_of_ble_eq_true rfl) ?_
  unfold f_Md_back at h
  show X M_Md_back (xRm (2) M_Md_back) (xZ M_Md_back (fun o h' => o = some (.int res.1) ∧ h' = (SH, res.2, L))) SH V L 0 0 0 [(0, .ref 65)] []
  refine x_aload_n 0 d_Md_back_0 rfl rfl ?_
  refine x_iconst 0 d_Md_back_1 (by decide) ?_
  obtain ⟨p1, e2, h⟩ := xbind h
  refine x_callV0v e_Md_85 sh_65 rfl (t_Md_copies 0 V L _ e2) rfl rfl rfl (Nat.le_of_ble_eq_true rfl) (xfit_of (by omega) (Nat.le_of_ble_eq_true rfl)) (Nat.zero_le _) (Nat.zero_le _) d_Md_back_2 ?_
  refine x_aload_n 0 d_Md_back_5 rfl rfl ?_
  refine x_getP (q := 66) f_Md_7 sh_65 rfl d_Md_back_6 ?_
  refine x_iconst 0 d_Md_back_9 (by decide) ?_
  refine x_ialoadC 0 sh_66 (by decide) (by decide) d_Md_back_10 ?_
  obtain rfl := Option.some.inj h
  exact x_ireturn rfl d_Md_back_11 (Nat.le_refl _) (Nat.le_refl _) ⟨rfl, rfl⟩
-- Md_wetDecrees
def b_Md_wetDecrees_4 (V : xV) (k4 : Int32 → Int32 → Option (Int32)) (v1 : Int32) (v2 : Int32) : Option (Int32) := (if 120 ≤ v2 then some v1 else (if xI (40 + v2) 270 = true then k4 (v1 + (V 66 (40 + v2).toNatClampNeg)) (v2 + 1) else none))
theorem tb_Md_wetDecrees_4 {V : xV} {L : xL} (k4 : Int32 → Int32 → Option (Int32)) (res : Int32) (hk4 : ∀ (v1 : Int32) (v2 : Int32), k4 v1 v2 = some res → X M_Md_wetDecrees (xRm (1) M_Md_wetDecrees) (xZ M_Md_wetDecrees (fun o h' => o = some (.int res) ∧ h' = (SH, V, L))) SH V L 0 0 4 [(0, .ref 65), (1, .int v1), (2, .int v2)] []) (v1 : Int32) (v2 : Int32) (h : b_Md_wetDecrees_4 V k4 v1 v2 = some res) : X M_Md_wetDecrees (xRm (1) M_Md_wetDecrees) (xZ M_Md_wetDecrees (fun o h' => o = some (.int res) ∧ h' = (SH, V, L))) SH V L 0 0 4 [(0, .ref 65), (1, .int v1), (2, .int v2)] [] := by
  unfold b_Md_wetDecrees_4 at h
  refine x_iload_n 2 d_Md_wetDecrees_4 rfl rfl ?_
  refine x_bipush 120 d_Md_wetDecrees_5 (by decide) ?_
  refine x_icmp_ge 28 d_Md_wetDecrees_7 (by decide) (fun c1 => ?_) (fun c1 => ?_)
  · replace h := xpos c1 h
    refine x_iload_n 1 d_Md_wetDecrees_28 rfl rfl ?_
    obtain rfl := Option.some.inj h
    exact x_ireturn rfl d_Md_wetDecrees_29 (Nat.le_refl _) (Nat.le_refl _) ⟨rfl, rfl⟩
  · replace h := xneg c1 h
    refine x_iload_n 1 d_Md_wetDecrees_10 rfl rfl ?_
    refine x_aload_n 0 d_Md_wetDecrees_11 rfl rfl ?_
    refine x_getP (q := 66) f_Md_7 sh_65 rfl d_Md_wetDecrees_12 ?_
    refine x_bipush 40 d_Md_wetDecrees_15 (by decide) ?_
    refine x_iload_n 2 d_Md_wetDecrees_17 rfl rfl ?_
    refine x_iadd d_Md_wetDecrees_18 ?_
    obtain ⟨c2, h⟩ := xguard h
    refine x_iaload sh_66 c2 d_Md_wetDecrees_19 ?_
    refine x_iadd d_Md_wetDecrees_20 ?_
    refine x_istore_n [(1, .int (v1 + (V 66 (40 + v2).toNatClampNeg))), (0, .ref 65), (2, .int v2)] d_Md_wetDecrees_21 rfl (Nat.le_of_ble_eq_true rfl) rfl ?_
    refine x_iinc 2 1 [(2, .int (v2 + 1)), (1, .int (v1 + (V 66 (40 + v2).toNatClampNeg))), (0, .ref 65)] d_Md_wetDecrees_22 rfl (by decide) (Nat.le_of_ble_eq_true rfl) rfl ?_
    refine x_goto 4 d_Md_wetDecrees_25 (by decide) ?_
    refine x_pick [2, 1, 0] rfl ?_
    exact hk4 (v1 + (V 66 (40 + v2).toNatClampNeg)) (v2 + 1) h
def g_Md_wetDecrees_4 (V : xV) : Nat → Int32 → Int32 → Option (Int32)
  | 0, _, _ => none
  | n + 1, v1, v2 => b_Md_wetDecrees_4 V (g_Md_wetDecrees_4 V n) v1 v2
theorem tg_Md_wetDecrees_4 {V : xV} {L : xL} (res : Int32)  : ∀ (n : Nat) (v1 : Int32) (v2 : Int32), g_Md_wetDecrees_4 V n v1 v2 = some res → X M_Md_wetDecrees (xRm (1) M_Md_wetDecrees) (xZ M_Md_wetDecrees (fun o h' => o = some (.int res) ∧ h' = (SH, V, L))) SH V L 0 0 4 [(0, .ref 65), (1, .int v1), (2, .int v2)] []
  | 0, _, _, h => by cases h
  | n + 1, v1, v2, h => tb_Md_wetDecrees_4 (V := V) (L := L) (g_Md_wetDecrees_4 V n) res (tg_Md_wetDecrees_4 (V := V) (L := L) res n) v1 v2 h
def f_Md_wetDecrees (V : xV) : Option (Int32) := g_Md_wetDecrees_4 V 2000 0 0
theorem t_Md_wetDecrees  (V : xV) (L : xL) (res : Int32) (h : f_Md_wetDecrees V = some res) : xRuns (1) M_Md_wetDecrees [.ref 65] (SH, V, L) (fun o h' => o = some (.int res) ∧ h' = (SH, V, L)) := by
  refine xRuns_of (by decide) (Nat.le_of_ble_eq_true rfl) ?_
  unfold f_Md_wetDecrees at h
  show X M_Md_wetDecrees (xRm (1) M_Md_wetDecrees) (xZ M_Md_wetDecrees (fun o h' => o = some (.int res) ∧ h' = (SH, V, L))) SH V L 0 0 0 [(0, .ref 65)] []
  refine x_iconst 0 d_Md_wetDecrees_0 (by decide) ?_
  refine x_istore_n [(1, .int 0), (0, .ref 65)] d_Md_wetDecrees_1 rfl (Nat.le_of_ble_eq_true rfl) rfl ?_
  refine x_iconst 0 d_Md_wetDecrees_2 (by decide) ?_
  refine x_istore_n [(2, .int 0), (1, .int 0), (0, .ref 65)] d_Md_wetDecrees_3 rfl (Nat.le_of_ble_eq_true rfl) rfl ?_
  refine x_pick [2, 1, 0] rfl ?_
  exact tg_Md_wetDecrees_4 (V := V) (L := L) res _ 0 0 h
-- Md_about
def f_Md_about (a1 : Int32) (V : xV) : Option (Int32) := (if a1 = 0 then some (V 66 0) else (if a1 = 1 then some (V 66 1) else (if a1 = 2 then some (V 66 2) else (if a1 = 3 then some (V 66 3) else (if a1 = 4 then some (V 66 4) else (if a1 = 5 then some (V 65 3) else (if a1 = 6 then (Option.bind (f_Md_wetDays V) fun p8 => some p8) else (if a1 = 7 then (Option.bind (f_Md_wetDecrees V) fun p11 => some p11) else (if (f_Md_in a1 10 19) = 0 then (if (f_Md_isFolk (a1 - 20) V) = 0 then some (-2) else (if xI (170 + (3 * (a1 - 20))) 270 = true then (if xI ((170 + (3 * (a1 - 20))) + 1) 270 = true then (if xI ((170 + (3 * (a1 - 20))) + 2) 270 = true then some (((100 * (V 66 (170 + (3 * (a1 - 20))).toNatClampNeg)) + (10 * (V 66 ((170 + (3 * (a1 - 20))) + 1).toNatClampNeg))) + (V 66 ((170 + (3 * (a1 - 20))) + 2).toNatClampNeg)) else none) else none) else none)) else (if xI ((160 + a1) - 10) 270 = true then some (V 66 ((160 + a1) - 10).toNatClampNeg) else none))))))))))
theorem t_Md_about (a1 : Int32) (V : xV) (L : xL) (res : Int32) (h : f_Md_about a1 V = some res) : xRuns (3) M_Md_about [.ref 65, .int a1] (SH, V, L) (fun o h' => o = some (.int res) ∧ h' = (SH, V, L)) := by
  refine xRuns_of (by decide) (Nat.le_of_ble_eq_true rfl) ?_
  unfold f_Md_about at h
  show X M_Md_about (xRm (3) M_Md_about) (xZ M_Md_about (fun o h' => o = some (.int res) ∧ h' = (SH, V, L))) SH V L 0 0 0 [(0, .ref 65), (1, .int a1)] []
  refine x_iload_n 1 d_Md_about_0 rfl rfl ?_
  by_cases c1 : a1 = 0
  · replace h := xpos c1 h
    refine x_tableIn 47 48 d_Md_about_1 (by rw [c1]; decide) (by rw [c1]; decide) (by rw [c1]; rfl) (by decide) ?_
    refine x_aload_n 0 d_Md_about_48 rfl rfl ?_
    refine x_getP (q := 66) f_Md_7 sh_65 rfl d_Md_about_49 ?_
    refine x_iconst 0 d_Md_about_52 (by decide) ?_
    refine x_ialoadC 0 sh_66 (by decide) (by decide) d_Md_about_53 ?_
    obtain rfl := Option.some.inj h
    exact x_ireturn rfl d_Md_about_54 (Nat.le_refl _) (Nat.le_refl _) ⟨rfl, rfl⟩
  replace h := xneg c1 h
  by_cases c2 : a1 = 1
  · replace h := xpos c2 h
    refine x_tableIn 54 55 d_Md_about_1 (by rw [c2]; decide) (by rw [c2]; decide) (by rw [c2]; rfl) (by decide) ?_
    refine x_aload_n 0 d_Md_about_55 rfl rfl ?_
    refine x_getP (q := 66) f_Md_7 sh_65 rfl d_Md_about_56 ?_
    refine x_iconst 1 d_Md_about_59 (by decide) ?_
    refine x_ialoadC 1 sh_66 (by decide) (by decide) d_Md_about_60 ?_
    obtain rfl := Option.some.inj h
    exact x_ireturn rfl d_Md_about_61 (Nat.le_refl _) (Nat.le_refl _) ⟨rfl, rfl⟩
  replace h := xneg c2 h
  by_cases c3 : a1 = 2
  · replace h := xpos c3 h
    refine x_tableIn 61 62 d_Md_about_1 (by rw [c3]; decide) (by rw [c3]; decide) (by rw [c3]; rfl) (by decide) ?_
    refine x_aload_n 0 d_Md_about_62 rfl rfl ?_
    refine x_getP (q := 66) f_Md_7 sh_65 rfl d_Md_about_63 ?_
    refine x_iconst 2 d_Md_about_66 (by decide) ?_
    refine x_ialoadC 2 sh_66 (by decide) (by decide) d_Md_about_67 ?_
    obtain rfl := Option.some.inj h
    exact x_ireturn rfl d_Md_about_68 (Nat.le_refl _) (Nat.le_refl _) ⟨rfl, rfl⟩
  replace h := xneg c3 h
  by_cases c4 : a1 = 3
  · replace h := xpos c4 h
    refine x_tableIn 68 69 d_Md_about_1 (by rw [c4]; decide) (by rw [c4]; decide) (by rw [c4]; rfl) (by decide) ?_
    refine x_aload_n 0 d_Md_about_69 rfl rfl ?_
    refine x_getP (q := 66) f_Md_7 sh_65 rfl d_Md_about_70 ?_
    refine x_iconst 3 d_Md_about_73 (by decide) ?_
    refine x_ialoadC 3 sh_66 (by decide) (by decide) d_Md_about_74 ?_
    obtain rfl := Option.some.inj h
    exact x_ireturn rfl d_Md_about_75 (Nat.le_refl _) (Nat.le_refl _) ⟨rfl, rfl⟩
  replace h := xneg c4 h
  by_cases c5 : a1 = 4
  · replace h := xpos c5 h
    refine x_tableIn 75 76 d_Md_about_1 (by rw [c5]; decide) (by rw [c5]; decide) (by rw [c5]; rfl) (by decide) ?_
    refine x_aload_n 0 d_Md_about_76 rfl rfl ?_
    refine x_getP (q := 66) f_Md_7 sh_65 rfl d_Md_about_77 ?_
    refine x_iconst 4 d_Md_about_80 (by decide) ?_
    refine x_ialoadC 4 sh_66 (by decide) (by decide) d_Md_about_81 ?_
    obtain rfl := Option.some.inj h
    exact x_ireturn rfl d_Md_about_82 (Nat.le_refl _) (Nat.le_refl _) ⟨rfl, rfl⟩
  replace h := xneg c5 h
  by_cases c6 : a1 = 5
  · replace h := xpos c6 h
    refine x_tableIn 82 83 d_Md_about_1 (by rw [c6]; decide) (by rw [c6]; decide) (by rw [c6]; rfl) (by decide) ?_
    refine x_aload_n 0 d_Md_about_83 rfl rfl ?_
    refine x_getI f_Md_107 sh_65 rfl d_Md_about_84 ?_
    obtain rfl := Option.some.inj h
    exact x_ireturn rfl d_Md_about_87 (Nat.le_refl _) (Nat.le_refl _) ⟨rfl, rfl⟩
  replace h := xneg c6 h
  by_cases c7 : a1 = 6
  · replace h := xpos c7 h
    refine x_tableIn 87 88 d_Md_about_1 (by rw [c7]; decide) (by rw [c7]; decide) (by rw [c7]; rfl) (by decide) ?_
    refine x_aload_n 0 d_Md_about_88 rfl rfl ?_
    obtain ⟨p8, e9, h⟩ := xbind h
    refine x_callV0 e_Md_100 sh_65 rfl (t_Md_wetDays V L _ e9) rfl rfl rfl (Nat.le_of_ble_eq_true rfl) (xfit_of (by omega) (Nat.le_of_ble_eq_true rfl)) (Nat.zero_le _) (Nat.zero_le _) d_Md_about_89 ?_
    obtain rfl := Option.some.inj h
    exact x_ireturn rfl d_Md_about_92 (Nat.le_refl _) (Nat.le_refl _) ⟨rfl, rfl⟩
  replace h := xneg c7 h
  by_cases c10 : a1 = 7
  · replace h := xpos c10 h
    refine x_tableIn 92 93 d_Md_about_1 (by rw [c10]; decide) (by rw [c10]; decide) (by rw [c10]; rfl) (by decide) ?_
    refine x_aload_n 0 d_Md_about_93 rfl rfl ?_
    obtain ⟨p11, e12, h⟩ := xbind h
    refine x_callV0 e_Md_377 sh_65 rfl (t_Md_wetDecrees V L _ e12) rfl rfl rfl (Nat.le_of_ble_eq_true rfl) (xfit_of (by omega) (Nat.le_of_ble_eq_true rfl)) (Nat.zero_le _) (Nat.zero_le _) d_Md_about_94 ?_
    obtain rfl := Option.some.inj h
    exact x_ireturn rfl d_Md_about_97 (Nat.le_refl _) (Nat.le_refl _) ⟨rfl, rfl⟩
  replace h := xneg c10 h
  refine x_tableOut 98 d_Md_about_1 (by have n0 := lv_neT c1 (a := 0) rfl; have n1 := lv_neT c2 (a := 1) rfl; have n2 := lv_neT c3 (a := 2) rfl; have n3 := lv_neT c4 (a := 3) rfl; have n4 := lv_neT c5 (a := 4) rfl; have n5 := lv_neT c6 (a := 5) rfl; have n6 := lv_neT c7 (a := 6) rfl; have n7 := lv_neT c10 (a := 7) rfl; omega) (by decide) ?_
  refine x_iload_n 1 d_Md_about_98 rfl rfl ?_
  refine x_bipush 10 d_Md_about_99 (by decide) ?_
  refine x_bipush 19 d_Md_about_101 (by decide) ?_
  refine x_callS0 e_Md_89 (t_Md_in a1 10 19 V L _ rfl) rfl rfl rfl (Nat.le_of_ble_eq_true rfl) (xfit_of (by omega) (Nat.le_of_ble_eq_true rfl)) (Nat.zero_le _) (Nat.zero_le _) d_Md_about_103 ?_
  refine x_if_eq 123 d_Md_about_106 (by decide) (fun c14 => ?_) (fun c14 => ?_)
  · replace h := xpos c14 h
    refine x_sipush 170 d_Md_about_123 (by decide) ?_
    refine x_iconst 3 d_Md_about_126 (by decide) ?_
    refine x_iload_n 1 d_Md_about_127 rfl rfl ?_
    refine x_bipush 20 d_Md_about_128 (by decide) ?_
    refine x_isub d_Md_about_130 ?_
    refine x_imul d_Md_about_131 ?_
    refine x_iadd d_Md_about_132 ?_
    refine x_istore_n [(2, .int (170 + (3 * (a1 - 20)))), (0, .ref 65), (1, .int a1)] d_Md_about_133 rfl (Nat.le_of_ble_eq_true rfl) rfl ?_
    refine x_aload_n 1 d_Md_about_134 rfl rfl ?_
    refine x_iload_n 2 d_Md_about_135 rfl rfl ?_
    refine x_bipush 20 d_Md_about_136 (by decide) ?_
    refine x_isub d_Md_about_138 ?_
    refine x_callV0 e_Md_333 sh_65 rfl (t_Md_isFolk (a1 - 20) V L _ rfl) rfl rfl rfl (Nat.le_of_ble_eq_true rfl) (xfit_of (by omega) (Nat.le_of_ble_eq_true rfl)) (Nat.zero_le _) (Nat.zero_le _) d_Md_about_139 ?_
    refine x_if_eq 178 d_Md_about_142 (by decide) (fun c16 => ?_) (fun c16 => ?_)
    · replace h := xpos c16 h
      refine x_bipush (-2) d_Md_about_178 (by decide) ?_
      obtain rfl := Option.some.inj h
      exact x_ireturn rfl d_Md_about_180 (Nat.le_refl _) (Nat.le_refl _) ⟨rfl, rfl⟩
    · replace h := xneg c16 h
      refine x_bipush 100 d_Md_about_145 (by decide) ?_
      refine x_aload_n 1 d_Md_about_147 rfl rfl ?_
      refine x_getP (q := 66) f_Md_7 sh_65 rfl d_Md_about_148 ?_
      refine x_iload_n 0 d_Md_about_151 rfl rfl ?_
      obtain ⟨c17, h⟩ := xguard h
      refine x_iaload sh_66 c17 d_Md_about_152 ?_
      refine x_imul d_Md_about_153 ?_
      refine x_bipush 10 d_Md_about_154 (by decide) ?_
      refine x_aload_n 1 d_Md_about_156 rfl rfl ?_
      refine x_getP (q := 66) f_Md_7 sh_65 rfl d_Md_about_157 ?_
      refine x_iload_n 0 d_Md_about_160 rfl rfl ?_
      refine x_iconst 1 d_Md_about_161 (by decide) ?_
      refine x_iadd d_Md_about_162 ?_
      obtain ⟨c18, h⟩ := xguard h
      refine x_iaload sh_66 c18 d_Md_about_163 ?_
      refine x_imul d_Md_about_164 ?_
      refine x_iadd d_Md_about_165 ?_
      refine x_aload_n 1 d_Md_about_166 rfl rfl ?_
      refine x_getP (q := 66) f_Md_7 sh_65 rfl d_Md_about_167 ?_
      refine x_iload_n 0 d_Md_about_170 rfl rfl ?_
      refine x_iconst 2 d_Md_about_171 (by decide) ?_
      refine x_iadd d_Md_about_172 ?_
      obtain ⟨c19, h⟩ := xguard h
      refine x_iaload sh_66 c19 d_Md_about_173 ?_
      refine x_iadd d_Md_about_174 ?_
      refine x_goto 180 d_Md_about_175 (by decide) ?_
      obtain rfl := Option.some.inj h
      exact x_ireturn rfl d_Md_about_180 (Nat.le_refl _) (Nat.le_refl _) ⟨rfl, rfl⟩
  · replace h := xneg c14 h
    refine x_aload_n 0 d_Md_about_109 rfl rfl ?_
    refine x_getP (q := 66) f_Md_7 sh_65 rfl d_Md_about_110 ?_
    refine x_sipush 160 d_Md_about_113 (by decide) ?_
    refine x_iload_n 1 d_Md_about_116 rfl rfl ?_
    refine x_iadd d_Md_about_117 ?_
    refine x_bipush 10 d_Md_about_118 (by decide) ?_
    refine x_isub d_Md_about_120 ?_
    obtain ⟨c20, h⟩ := xguard h
    refine x_iaload sh_66 c20 d_Md_about_121 ?_
    obtain rfl := Option.some.inj h
    exact x_ireturn rfl d_Md_about_122 (Nat.le_refl _) (Nat.le_refl _) ⟨rfl, rfl⟩
