theorem d_Reader_readSum_0 : decode M_Reader_readSum.2.1 0 = .ok (.bipush 36, 2) := by decide +kernel
theorem d_Reader_readSum_2 : decode M_Reader_readSum.2.1 2 = .ok (.istore_n 2, 1) := by decide +kernel
theorem d_Reader_readSum_3 : decode M_Reader_readSum.2.1 3 = .ok (.bipush 36, 2) := by decide +kernel
theorem d_Reader_readSum_5 : decode M_Reader_readSum.2.1 5 = .ok (.istore_n 3, 1) := by decide +kernel
theorem d_Reader_readSum_6 : decode M_Reader_readSum.2.1 6 = .ok (.iconst 0, 1) := by decide +kernel
theorem d_Reader_readSum_7 : decode M_Reader_readSum.2.1 7 = .ok (.istore 4, 2) := by decide +kernel
theorem d_Reader_readSum_9 : decode M_Reader_readSum.2.1 9 = .ok (.iload 4, 2) := by decide +kernel
theorem d_Reader_readSum_11 : decode M_Reader_readSum.2.1 11 = .ok (.aload_n 0, 1) := by decide +kernel
theorem d_Reader_readSum_12 : decode M_Reader_readSum.2.1 12 = .ok (.getfield 18, 3) := by decide +kernel
theorem d_Reader_readSum_15 : decode M_Reader_readSum.2.1 15 = .ok (.getfield 45, 3) := by decide +kernel
theorem d_Reader_readSum_18 : decode M_Reader_readSum.2.1 18 = .ok (.if_icmp .ge 135, 3) := by decide +kernel
theorem d_Reader_readSum_21 : decode M_Reader_readSum.2.1 21 = .ok (.aload_n 0, 1) := by decide +kernel
theorem d_Reader_readSum_22 : decode M_Reader_readSum.2.1 22 = .ok (.iload_n 1, 1) := by decide +kernel
theorem d_Reader_readSum_23 : decode M_Reader_readSum.2.1 23 = .ok (.invokevirtual 100, 3) := by decide +kernel
theorem d_Reader_readSum_26 : decode M_Reader_readSum.2.1 26 = .ok (.ifCond .ne 5, 3) := by decide +kernel
theorem d_Reader_readSum_29 : decode M_Reader_readSum.2.1 29 = .ok (.iconst 0, 1) := by decide +kernel
theorem d_Reader_readSum_30 : decode M_Reader_readSum.2.1 30 = .ok (.ireturn, 1) := by decide +kernel
theorem d_Reader_readSum_31 : decode M_Reader_readSum.2.1 31 = .ok (.aload_n 0, 1) := by decide +kernel
theorem d_Reader_readSum_32 : decode M_Reader_readSum.2.1 32 = .ok (.iload_n 2, 1) := by decide +kernel
theorem d_Reader_readSum_33 : decode M_Reader_readSum.2.1 33 = .ok (.bipush 36, 2) := by decide +kernel
theorem d_Reader_readSum_35 : decode M_Reader_readSum.2.1 35 = .ok (.if_icmp .eq 7, 3) := by decide +kernel
theorem d_Reader_readSum_38 : decode M_Reader_readSum.2.1 38 = .ok (.iconst 1, 1) := by decide +kernel
theorem d_Reader_readSum_39 : decode M_Reader_readSum.2.1 39 = .ok (.goto 4, 3) := by decide +kernel
theorem d_Reader_readSum_42 : decode M_Reader_readSum.2.1 42 = .ok (.iconst 0, 1) := by decide +kernel
theorem d_Reader_readSum_43 : decode M_Reader_readSum.2.1 43 = .ok (.iconst (-1), 1) := by decide +kernel
theorem d_Reader_readSum_44 : decode M_Reader_readSum.2.1 44 = .ok (.iload_n 2, 1) := by decide +kernel
theorem d_Reader_readSum_45 : decode M_Reader_readSum.2.1 45 = .ok (.isub, 1) := by decide +kernel
theorem d_Reader_readSum_46 : decode M_Reader_readSum.2.1 46 = .ok (.invokevirtual 96, 3) := by decide +kernel
theorem d_Reader_readSum_49 : decode M_Reader_readSum.2.1 49 = .ok (.aload_n 0, 1) := by decide +kernel
theorem d_Reader_readSum_50 : decode M_Reader_readSum.2.1 50 = .ok (.invokevirtual 48, 3) := by decide +kernel
theorem d_Reader_readSum_53 : decode M_Reader_readSum.2.1 53 = .ok (.bipush 30, 2) := by decide +kernel
theorem d_Reader_readSum_55 : decode M_Reader_readSum.2.1 55 = .ok (.if_icmp .eq 12, 3) := by decide +kernel
theorem d_Reader_readSum_58 : decode M_Reader_readSum.2.1 58 = .ok (.aload_n 0, 1) := by decide +kernel
theorem d_Reader_readSum_59 : decode M_Reader_readSum.2.1 59 = .ok (.invokevirtual 48, 3) := by decide +kernel
theorem d_Reader_readSum_62 : decode M_Reader_readSum.2.1 62 = .ok (.bipush 31, 2) := by decide +kernel
theorem d_Reader_readSum_64 : decode M_Reader_readSum.2.1 64 = .ok (.if_icmp .ne 10, 3) := by decide +kernel
theorem d_Reader_readSum_67 : decode M_Reader_readSum.2.1 67 = .ok (.aload_n 0, 1) := by decide +kernel
theorem d_Reader_readSum_68 : decode M_Reader_readSum.2.1 68 = .ok (.invokevirtual 48, 3) := by decide +kernel
theorem d_Reader_readSum_71 : decode M_Reader_readSum.2.1 71 = .ok (.goto 5, 3) := by decide +kernel
theorem d_Reader_readSum_74 : decode M_Reader_readSum.2.1 74 = .ok (.bipush 36, 2) := by decide +kernel
theorem d_Reader_readSum_76 : decode M_Reader_readSum.2.1 76 = .ok (.istore_n 2, 1) := by decide +kernel
theorem d_Reader_readSum_77 : decode M_Reader_readSum.2.1 77 = .ok (.iload_n 2, 1) := by decide +kernel
theorem d_Reader_readSum_78 : decode M_Reader_readSum.2.1 78 = .ok (.bipush 36, 2) := by decide +kernel
theorem d_Reader_readSum_80 : decode M_Reader_readSum.2.1 80 = .ok (.if_icmp .ne 57, 3) := by decide +kernel
theorem d_Reader_readSum_83 : decode M_Reader_readSum.2.1 83 = .ok (.aload_n 0, 1) := by decide +kernel
theorem d_Reader_readSum_84 : decode M_Reader_readSum.2.1 84 = .ok (.iload_n 3, 1) := by decide +kernel
theorem d_Reader_readSum_85 : decode M_Reader_readSum.2.1 85 = .ok (.bipush 36, 2) := by decide +kernel
theorem d_Reader_readSum_87 : decode M_Reader_readSum.2.1 87 = .ok (.if_icmp .eq 7, 3) := by decide +kernel
theorem d_Reader_readSum_90 : decode M_Reader_readSum.2.1 90 = .ok (.iconst 1, 1) := by decide +kernel
theorem d_Reader_readSum_91 : decode M_Reader_readSum.2.1 91 = .ok (.goto 4, 3) := by decide +kernel
theorem d_Reader_readSum_94 : decode M_Reader_readSum.2.1 94 = .ok (.iconst 0, 1) := by decide +kernel
theorem d_Reader_readSum_95 : decode M_Reader_readSum.2.1 95 = .ok (.iconst (-1), 1) := by decide +kernel
theorem d_Reader_readSum_96 : decode M_Reader_readSum.2.1 96 = .ok (.iload_n 3, 1) := by decide +kernel
theorem d_Reader_readSum_97 : decode M_Reader_readSum.2.1 97 = .ok (.isub, 1) := by decide +kernel
theorem d_Reader_readSum_98 : decode M_Reader_readSum.2.1 98 = .ok (.invokevirtual 96, 3) := by decide +kernel
theorem d_Reader_readSum_101 : decode M_Reader_readSum.2.1 101 = .ok (.aload_n 0, 1) := by decide +kernel
theorem d_Reader_readSum_102 : decode M_Reader_readSum.2.1 102 = .ok (.invokevirtual 48, 3) := by decide +kernel
theorem d_Reader_readSum_105 : decode M_Reader_readSum.2.1 105 = .ok (.bipush 28, 2) := by decide +kernel
theorem d_Reader_readSum_107 : decode M_Reader_readSum.2.1 107 = .ok (.if_icmp .eq 12, 3) := by decide +kernel
theorem d_Reader_readSum_110 : decode M_Reader_readSum.2.1 110 = .ok (.aload_n 0, 1) := by decide +kernel
theorem d_Reader_readSum_111 : decode M_Reader_readSum.2.1 111 = .ok (.invokevirtual 48, 3) := by decide +kernel
theorem d_Reader_readSum_114 : decode M_Reader_readSum.2.1 114 = .ok (.bipush 29, 2) := by decide +kernel
theorem d_Reader_readSum_116 : decode M_Reader_readSum.2.1 116 = .ok (.if_icmp .ne 10, 3) := by decide +kernel
theorem d_Reader_readSum_119 : decode M_Reader_readSum.2.1 119 = .ok (.aload_n 0, 1) := by decide +kernel
theorem d_Reader_readSum_120 : decode M_Reader_readSum.2.1 120 = .ok (.invokevirtual 48, 3) := by decide +kernel
theorem d_Reader_readSum_123 : decode M_Reader_readSum.2.1 123 = .ok (.goto 5, 3) := by decide +kernel
theorem d_Reader_readSum_126 : decode M_Reader_readSum.2.1 126 = .ok (.bipush 36, 2) := by decide +kernel
theorem d_Reader_readSum_128 : decode M_Reader_readSum.2.1 128 = .ok (.istore_n 3, 1) := by decide +kernel
theorem d_Reader_readSum_129 : decode M_Reader_readSum.2.1 129 = .ok (.iload_n 3, 1) := by decide +kernel
theorem d_Reader_readSum_130 : decode M_Reader_readSum.2.1 130 = .ok (.bipush 36, 2) := by decide +kernel
theorem d_Reader_readSum_132 : decode M_Reader_readSum.2.1 132 = .ok (.if_icmp .ne 5, 3) := by decide +kernel
theorem d_Reader_readSum_135 : decode M_Reader_readSum.2.1 135 = .ok (.iconst 1, 1) := by decide +kernel
theorem d_Reader_readSum_136 : decode M_Reader_readSum.2.1 136 = .ok (.ireturn, 1) := by decide +kernel
theorem d_Reader_readSum_137 : decode M_Reader_readSum.2.1 137 = .ok (.aload_n 0, 1) := by decide +kernel
theorem d_Reader_readSum_138 : decode M_Reader_readSum.2.1 138 = .ok (.dup, 1) := by decide +kernel
theorem d_Reader_readSum_139 : decode M_Reader_readSum.2.1 139 = .ok (.getfield 38, 3) := by decide +kernel
theorem d_Reader_readSum_142 : decode M_Reader_readSum.2.1 142 = .ok (.iconst 1, 1) := by decide +kernel
theorem d_Reader_readSum_143 : decode M_Reader_readSum.2.1 143 = .ok (.iadd, 1) := by decide +kernel
theorem d_Reader_readSum_144 : decode M_Reader_readSum.2.1 144 = .ok (.putfield 38, 3) := by decide +kernel
theorem d_Reader_readSum_147 : decode M_Reader_readSum.2.1 147 = .ok (.iinc 4 1, 3) := by decide +kernel
theorem d_Reader_readSum_150 : decode M_Reader_readSum.2.1 150 = .ok (.goto (-141), 3) := by decide +kernel
theorem d_Reader_readSum_153 : decode M_Reader_readSum.2.1 153 = .ok (.aload_n 0, 1) := by decide +kernel
theorem d_Reader_readSum_154 : decode M_Reader_readSum.2.1 154 = .ok (.iconst 1, 1) := by decide +kernel
theorem d_Reader_readSum_155 : decode M_Reader_readSum.2.1 155 = .ok (.invokevirtual 73, 3) := by decide +kernel
theorem d_Reader_readSum_158 : decode M_Reader_readSum.2.1 158 = .ok (.ireturn, 1) := by decide +kernel
theorem d_Reader_readAsk_0 : decode M_Reader_readAsk.2.1 0 = .ok (.iconst 0, 1) := by decide +kernel
theorem d_Reader_readAsk_1 : decode M_Reader_readAsk.2.1 1 = .ok (.istore_n 1, 1) := by decide +kernel
theorem d_Reader_readAsk_2 : decode M_Reader_readAsk.2.1 2 = .ok (.iconst 0, 1) := by decide +kernel
theorem d_Reader_readAsk_3 : decode M_Reader_readAsk.2.1 3 = .ok (.istore_n 2, 1) := by decide +kernel
theorem d_Reader_readAsk_4 : decode M_Reader_readAsk.2.1 4 = .ok (.iload_n 2, 1) := by decide +kernel
theorem d_Reader_readAsk_5 : decode M_Reader_readAsk.2.1 5 = .ok (.bipush 8, 2) := by decide +kernel
theorem d_Reader_readAsk_7 : decode M_Reader_readAsk.2.1 7 = .ok (.if_icmp .gt 43, 3) := by decide +kernel
theorem d_Reader_readAsk_10 : decode M_Reader_readAsk.2.1 10 = .ok (.aload_n 0, 1) := by decide +kernel
theorem d_Reader_readAsk_11 : decode M_Reader_readAsk.2.1 11 = .ok (.invokevirtual 48, 3) := by decide +kernel
theorem d_Reader_readAsk_14 : decode M_Reader_readAsk.2.1 14 = .ok (.bipush 8, 2) := by decide +kernel
theorem d_Reader_readAsk_16 : decode M_Reader_readAsk.2.1 16 = .ok (.if_icmp .ne 34, 3) := by decide +kernel
theorem d_Reader_readAsk_19 : decode M_Reader_readAsk.2.1 19 = .ok (.iload_n 1, 1) := by decide +kernel
theorem d_Reader_readAsk_20 : decode M_Reader_readAsk.2.1 20 = .ok (.bipush 8, 2) := by decide +kernel
theorem d_Reader_readAsk_22 : decode M_Reader_readAsk.2.1 22 = .ok (.if_icmp .lt 9, 3) := by decide +kernel
theorem d_Reader_readAsk_25 : decode M_Reader_readAsk.2.1 25 = .ok (.aload_n 0, 1) := by decide +kernel
theorem d_Reader_readAsk_26 : decode M_Reader_readAsk.2.1 26 = .ok (.iconst 3, 1) := by decide +kernel
theorem d_Reader_readAsk_27 : decode M_Reader_readAsk.2.1 27 = .ok (.invokevirtual 73, 3) := by decide +kernel
theorem d_Reader_readAsk_30 : decode M_Reader_readAsk.2.1 30 = .ok (.ireturn, 1) := by decide +kernel
theorem d_Reader_readAsk_31 : decode M_Reader_readAsk.2.1 31 = .ok (.iinc 1 1, 3) := by decide +kernel
theorem d_Reader_readAsk_34 : decode M_Reader_readAsk.2.1 34 = .ok (.aload_n 0, 1) := by decide +kernel
theorem d_Reader_readAsk_35 : decode M_Reader_readAsk.2.1 35 = .ok (.dup, 1) := by decide +kernel
theorem d_Reader_readAsk_36 : decode M_Reader_readAsk.2.1 36 = .ok (.getfield 38, 3) := by decide +kernel
theorem d_Reader_readAsk_39 : decode M_Reader_readAsk.2.1 39 = .ok (.iconst 1, 1) := by decide +kernel
theorem d_Reader_readAsk_40 : decode M_Reader_readAsk.2.1 40 = .ok (.iadd, 1) := by decide +kernel
theorem d_Reader_readAsk_41 : decode M_Reader_readAsk.2.1 41 = .ok (.putfield 38, 3) := by decide +kernel
theorem d_Reader_readAsk_44 : decode M_Reader_readAsk.2.1 44 = .ok (.iinc 2 1, 3) := by decide +kernel
theorem d_Reader_readAsk_47 : decode M_Reader_readAsk.2.1 47 = .ok (.goto (-43), 3) := by decide +kernel
theorem d_Reader_readAsk_50 : decode M_Reader_readAsk.2.1 50 = .ok (.aload_n 0, 1) := by decide +kernel
theorem d_Reader_readAsk_51 : decode M_Reader_readAsk.2.1 51 = .ok (.iload_n 1, 1) := by decide +kernel
theorem d_Reader_readAsk_52 : decode M_Reader_readAsk.2.1 52 = .ok (.invokevirtual 83, 3) := by decide +kernel
theorem d_Reader_readAsk_55 : decode M_Reader_readAsk.2.1 55 = .ok (.ifCond .ne 5, 3) := by decide +kernel
theorem d_Reader_readAsk_58 : decode M_Reader_readAsk.2.1 58 = .ok (.iconst 0, 1) := by decide +kernel
theorem d_Reader_readAsk_59 : decode M_Reader_readAsk.2.1 59 = .ok (.ireturn, 1) := by decide +kernel
theorem d_Reader_readAsk_60 : decode M_Reader_readAsk.2.1 60 = .ok (.aload_n 0, 1) := by decide +kernel
theorem d_Reader_readAsk_61 : decode M_Reader_readAsk.2.1 61 = .ok (.invokevirtual 48, 3) := by decide +kernel
theorem d_Reader_readAsk_64 : decode M_Reader_readAsk.2.1 64 = .ok (.istore_n 2, 1) := by decide +kernel
theorem d_Reader_readAsk_65 : decode M_Reader_readAsk.2.1 65 = .ok (.iload_n 2, 1) := by decide +kernel
theorem d_Reader_readAsk_66 : decode M_Reader_readAsk.2.1 66 = .ok (.bipush 22, 2) := by decide +kernel
theorem d_Reader_readAsk_68 : decode M_Reader_readAsk.2.1 68 = .ok (.if_icmp .lt 9, 3) := by decide +kernel
theorem d_Reader_readAsk_71 : decode M_Reader_readAsk.2.1 71 = .ok (.iload_n 2, 1) := by decide +kernel
theorem d_Reader_readAsk_72 : decode M_Reader_readAsk.2.1 72 = .ok (.bipush 27, 2) := by decide +kernel
theorem d_Reader_readAsk_74 : decode M_Reader_readAsk.2.1 74 = .ok (.if_icmp .le 9, 3) := by decide +kernel
theorem d_Reader_readAsk_77 : decode M_Reader_readAsk.2.1 77 = .ok (.aload_n 0, 1) := by decide +kernel
theorem d_Reader_readAsk_78 : decode M_Reader_readAsk.2.1 78 = .ok (.iconst 1, 1) := by decide +kernel
theorem d_Reader_readAsk_79 : decode M_Reader_readAsk.2.1 79 = .ok (.invokevirtual 73, 3) := by decide +kernel
theorem d_Reader_readAsk_82 : decode M_Reader_readAsk.2.1 82 = .ok (.ireturn, 1) := by decide +kernel
theorem d_Reader_readAsk_83 : decode M_Reader_readAsk.2.1 83 = .ok (.aload_n 0, 1) := by decide +kernel
theorem d_Reader_readAsk_84 : decode M_Reader_readAsk.2.1 84 = .ok (.dup, 1) := by decide +kernel
theorem d_Reader_readAsk_85 : decode M_Reader_readAsk.2.1 85 = .ok (.getfield 38, 3) := by decide +kernel
theorem d_Reader_readAsk_88 : decode M_Reader_readAsk.2.1 88 = .ok (.iconst 1, 1) := by decide +kernel
theorem d_Reader_readAsk_89 : decode M_Reader_readAsk.2.1 89 = .ok (.iadd, 1) := by decide +kernel
theorem d_Reader_readAsk_90 : decode M_Reader_readAsk.2.1 90 = .ok (.putfield 38, 3) := by decide +kernel
theorem d_Reader_readAsk_93 : decode M_Reader_readAsk.2.1 93 = .ok (.aload_n 0, 1) := by decide +kernel
theorem d_Reader_readAsk_94 : decode M_Reader_readAsk.2.1 94 = .ok (.iload_n 1, 1) := by decide +kernel
theorem d_Reader_readAsk_95 : decode M_Reader_readAsk.2.1 95 = .ok (.invokevirtual 83, 3) := by decide +kernel
theorem d_Reader_readAsk_98 : decode M_Reader_readAsk.2.1 98 = .ok (.ifCond .ne 5, 3) := by decide +kernel
theorem d_Reader_readAsk_101 : decode M_Reader_readAsk.2.1 101 = .ok (.iconst 0, 1) := by decide +kernel
theorem d_Reader_readAsk_102 : decode M_Reader_readAsk.2.1 102 = .ok (.ireturn, 1) := by decide +kernel
theorem d_Reader_readAsk_103 : decode M_Reader_readAsk.2.1 103 = .ok (.aload_n 0, 1) := by decide +kernel
theorem d_Reader_readAsk_104 : decode M_Reader_readAsk.2.1 104 = .ok (.iconst 1, 1) := by decide +kernel
theorem d_Reader_readAsk_105 : decode M_Reader_readAsk.2.1 105 = .ok (.iconst (-1), 1) := by decide +kernel
theorem d_Reader_readAsk_106 : decode M_Reader_readAsk.2.1 106 = .ok (.iload_n 2, 1) := by decide +kernel
theorem d_Reader_readAsk_107 : decode M_Reader_readAsk.2.1 107 = .ok (.isub, 1) := by decide +kernel
theorem d_Reader_readAsk_108 : decode M_Reader_readAsk.2.1 108 = .ok (.invokevirtual 96, 3) := by decide +kernel
theorem d_Reader_readAsk_111 : decode M_Reader_readAsk.2.1 111 = .ok (.aload_n 0, 1) := by decide +kernel
theorem d_Reader_readAsk_112 : decode M_Reader_readAsk.2.1 112 = .ok (.iload_n 1, 1) := by decide +kernel
theorem d_Reader_readAsk_113 : decode M_Reader_readAsk.2.1 113 = .ok (.iconst 2, 1) := by decide +kernel
theorem d_Reader_readAsk_114 : decode M_Reader_readAsk.2.1 114 = .ok (.irem, 1) := by decide +kernel
theorem d_Reader_readAsk_115 : decode M_Reader_readAsk.2.1 115 = .ok (.iconst 1, 1) := by decide +kernel
theorem d_Reader_readAsk_116 : decode M_Reader_readAsk.2.1 116 = .ok (.if_icmp .ne 7, 3) := by decide +kernel
theorem d_Reader_readAsk_119 : decode M_Reader_readAsk.2.1 119 = .ok (.iconst 1, 1) := by decide +kernel
theorem d_Reader_readAsk_120 : decode M_Reader_readAsk.2.1 120 = .ok (.goto 4, 3) := by decide +kernel
theorem d_Reader_readAsk_123 : decode M_Reader_readAsk.2.1 123 = .ok (.iconst 0, 1) := by decide +kernel
theorem d_Reader_readAsk_124 : decode M_Reader_readAsk.2.1 124 = .ok (.bipush (-9), 2) := by decide +kernel
theorem d_Reader_readAsk_126 : decode M_Reader_readAsk.2.1 126 = .ok (.invokevirtual 96, 3) := by decide +kernel
theorem d_Reader_readAsk_129 : decode M_Reader_readAsk.2.1 129 = .ok (.iconst 1, 1) := by decide +kernel
theorem d_Reader_readAsk_130 : decode M_Reader_readAsk.2.1 130 = .ok (.ireturn, 1) := by decide +kernel
theorem d_Reader_readEither_0 : decode M_Reader_readEither.2.1 0 = .ok (.iconst 0, 1) := by decide +kernel
theorem d_Reader_readEither_1 : decode M_Reader_readEither.2.1 1 = .ok (.istore_n 1, 1) := by decide +kernel
theorem d_Reader_readEither_2 : decode M_Reader_readEither.2.1 2 = .ok (.iconst 0, 1) := by decide +kernel
theorem d_Reader_readEither_3 : decode M_Reader_readEither.2.1 3 = .ok (.istore_n 2, 1) := by decide +kernel
theorem d_Reader_readEither_4 : decode M_Reader_readEither.2.1 4 = .ok (.iconst 0, 1) := by decide +kernel
theorem d_Reader_readEither_5 : decode M_Reader_readEither.2.1 5 = .ok (.istore_n 3, 1) := by decide +kernel
theorem d_Reader_readEither_6 : decode M_Reader_readEither.2.1 6 = .ok (.iload_n 3, 1) := by decide +kernel
theorem d_Reader_readEither_7 : decode M_Reader_readEither.2.1 7 = .ok (.aload_n 0, 1) := by decide +kernel
theorem d_Reader_readEither_8 : decode M_Reader_readEither.2.1 8 = .ok (.getfield 18, 3) := by decide +kernel
theorem d_Reader_readEither_11 : decode M_Reader_readEither.2.1 11 = .ok (.getfield 45, 3) := by decide +kernel
theorem d_Reader_readEither_14 : decode M_Reader_readEither.2.1 14 = .ok (.if_icmp .ge 82, 3) := by decide +kernel
theorem d_Reader_readEither_17 : decode M_Reader_readEither.2.1 17 = .ok (.aload_n 0, 1) := by decide +kernel
theorem d_Reader_readEither_18 : decode M_Reader_readEither.2.1 18 = .ok (.invokevirtual 93, 3) := by decide +kernel
theorem d_Reader_readEither_21 : decode M_Reader_readEither.2.1 21 = .ok (.ifCond .ne 5, 3) := by decide +kernel
theorem d_Reader_readEither_24 : decode M_Reader_readEither.2.1 24 = .ok (.iconst 0, 1) := by decide +kernel
theorem d_Reader_readEither_25 : decode M_Reader_readEither.2.1 25 = .ok (.ireturn, 1) := by decide +kernel
theorem d_Reader_readEither_26 : decode M_Reader_readEither.2.1 26 = .ok (.aload_n 0, 1) := by decide +kernel
theorem d_Reader_readEither_27 : decode M_Reader_readEither.2.1 27 = .ok (.iload_n 2, 1) := by decide +kernel
theorem d_Reader_readEither_28 : decode M_Reader_readEither.2.1 28 = .ok (.bipush (-8), 2) := by decide +kernel
theorem d_Reader_readEither_30 : decode M_Reader_readEither.2.1 30 = .ok (.invokevirtual 96, 3) := by decide +kernel
theorem d_Reader_readEither_33 : decode M_Reader_readEither.2.1 33 = .ok (.aload_n 0, 1) := by decide +kernel
theorem d_Reader_readEither_34 : decode M_Reader_readEither.2.1 34 = .ok (.invokevirtual 48, 3) := by decide +kernel
theorem d_Reader_readEither_37 : decode M_Reader_readEither.2.1 37 = .ok (.bipush 7, 2) := by decide +kernel
theorem d_Reader_readEither_39 : decode M_Reader_readEither.2.1 39 = .ok (.if_icmp .ne 7, 3) := by decide +kernel
theorem d_Reader_readEither_42 : decode M_Reader_readEither.2.1 42 = .ok (.iconst 1, 1) := by decide +kernel
theorem d_Reader_readEither_43 : decode M_Reader_readEither.2.1 43 = .ok (.goto 4, 3) := by decide +kernel
theorem d_Reader_readEither_46 : decode M_Reader_readEither.2.1 46 = .ok (.iconst 0, 1) := by decide +kernel
theorem d_Reader_readEither_47 : decode M_Reader_readEither.2.1 47 = .ok (.istore_n 2, 1) := by decide +kernel
theorem d_Reader_readEither_48 : decode M_Reader_readEither.2.1 48 = .ok (.iload_n 2, 1) := by decide +kernel
theorem d_Reader_readEither_49 : decode M_Reader_readEither.2.1 49 = .ok (.ifCond .ne 31, 3) := by decide +kernel
theorem d_Reader_readEither_52 : decode M_Reader_readEither.2.1 52 = .ok (.aload_n 0, 1) := by decide +kernel
theorem d_Reader_readEither_53 : decode M_Reader_readEither.2.1 53 = .ok (.iload_n 1, 1) := by decide +kernel
theorem d_Reader_readEither_54 : decode M_Reader_readEither.2.1 54 = .ok (.bipush (-7), 2) := by decide +kernel
theorem d_Reader_readEither_56 : decode M_Reader_readEither.2.1 56 = .ok (.invokevirtual 96, 3) := by decide +kernel
theorem d_Reader_readEither_59 : decode M_Reader_readEither.2.1 59 = .ok (.aload_n 0, 1) := by decide +kernel
theorem d_Reader_readEither_60 : decode M_Reader_readEither.2.1 60 = .ok (.invokevirtual 48, 3) := by decide +kernel
theorem d_Reader_readEither_63 : decode M_Reader_readEither.2.1 63 = .ok (.bipush 6, 2) := by decide +kernel
theorem d_Reader_readEither_65 : decode M_Reader_readEither.2.1 65 = .ok (.if_icmp .ne 7, 3) := by decide +kernel
theorem d_Reader_readEither_68 : decode M_Reader_readEither.2.1 68 = .ok (.iconst 1, 1) := by decide +kernel
theorem d_Reader_readEither_69 : decode M_Reader_readEither.2.1 69 = .ok (.goto 4, 3) := by decide +kernel
theorem d_Reader_readEither_72 : decode M_Reader_readEither.2.1 72 = .ok (.iconst 0, 1) := by decide +kernel
theorem d_Reader_readEither_73 : decode M_Reader_readEither.2.1 73 = .ok (.istore_n 1, 1) := by decide +kernel
theorem d_Reader_readEither_74 : decode M_Reader_readEither.2.1 74 = .ok (.iload_n 1, 1) := by decide +kernel
theorem d_Reader_readEither_75 : decode M_Reader_readEither.2.1 75 = .ok (.ifCond .ne 5, 3) := by decide +kernel
theorem d_Reader_readEither_78 : decode M_Reader_readEither.2.1 78 = .ok (.iconst 1, 1) := by decide +kernel
theorem d_Reader_readEither_79 : decode M_Reader_readEither.2.1 79 = .ok (.ireturn, 1) := by decide +kernel
theorem d_Reader_readEither_80 : decode M_Reader_readEither.2.1 80 = .ok (.aload_n 0, 1) := by decide +kernel
theorem d_Reader_readEither_81 : decode M_Reader_readEither.2.1 81 = .ok (.dup, 1) := by decide +kernel
theorem d_Reader_readEither_82 : decode M_Reader_readEither.2.1 82 = .ok (.getfield 38, 3) := by decide +kernel
theorem d_Reader_readEither_85 : decode M_Reader_readEither.2.1 85 = .ok (.iconst 1, 1) := by decide +kernel
theorem d_Reader_readEither_86 : decode M_Reader_readEither.2.1 86 = .ok (.iadd, 1) := by decide +kernel
theorem d_Reader_readEither_87 : decode M_Reader_readEither.2.1 87 = .ok (.putfield 38, 3) := by decide +kernel
theorem d_Reader_readEither_90 : decode M_Reader_readEither.2.1 90 = .ok (.iinc 3 1, 3) := by decide +kernel
theorem d_Reader_readEither_93 : decode M_Reader_readEither.2.1 93 = .ok (.goto (-87), 3) := by decide +kernel
theorem d_Reader_readEither_96 : decode M_Reader_readEither.2.1 96 = .ok (.aload_n 0, 1) := by decide +kernel
theorem d_Reader_readEither_97 : decode M_Reader_readEither.2.1 97 = .ok (.iconst 1, 1) := by decide +kernel
theorem d_Reader_readEither_98 : decode M_Reader_readEither.2.1 98 = .ok (.invokevirtual 73, 3) := by decide +kernel
theorem d_Reader_readEither_101 : decode M_Reader_readEither.2.1 101 = .ok (.ireturn, 1) := by decide +kernel
theorem d_Law_enter_0 : decode M_Law_enter.2.1 0 = .ok (.iload_n 1, 1) := by decide +kernel
theorem d_Law_enter_1 : decode M_Law_enter.2.1 1 = .ok (.bipush 6, 2) := by decide +kernel
theorem d_Law_enter_3 : decode M_Law_enter.2.1 3 = .ok (.invokestatic 37, 3) := by decide +kernel
theorem d_Law_enter_6 : decode M_Law_enter.2.1 6 = .ok (.ifCond .eq 52, 3) := by decide +kernel
theorem d_Law_enter_9 : decode M_Law_enter.2.1 9 = .ok (.aload_n 0, 1) := by decide +kernel
theorem d_Law_enter_10 : decode M_Law_enter.2.1 10 = .ok (.getfield 30, 3) := by decide +kernel
theorem d_Law_enter_13 : decode M_Law_enter.2.1 13 = .ok (.bipush 6, 2) := by decide +kernel
theorem d_Law_enter_15 : decode M_Law_enter.2.1 15 = .ok (.invokestatic 37, 3) := by decide +kernel
theorem d_Law_enter_18 : decode M_Law_enter.2.1 18 = .ok (.ifCond .eq 40, 3) := by decide +kernel
theorem d_Law_enter_21 : decode M_Law_enter.2.1 21 = .ok (.aload_n 0, 1) := by decide +kernel
theorem d_Law_enter_22 : decode M_Law_enter.2.1 22 = .ok (.getfield 15, 3) := by decide +kernel
theorem d_Law_enter_25 : decode M_Law_enter.2.1 25 = .ok (.iload_n 1, 1) := by decide +kernel
theorem d_Law_enter_26 : decode M_Law_enter.2.1 26 = .ok (.iload_n 2, 1) := by decide +kernel
theorem d_Law_enter_27 : decode M_Law_enter.2.1 27 = .ok (.iastore, 1) := by decide +kernel
theorem d_Law_enter_28 : decode M_Law_enter.2.1 28 = .ok (.aload_n 0, 1) := by decide +kernel
theorem d_Law_enter_29 : decode M_Law_enter.2.1 29 = .ok (.getfield 18, 3) := by decide +kernel
theorem d_Law_enter_32 : decode M_Law_enter.2.1 32 = .ok (.iload_n 1, 1) := by decide +kernel
theorem d_Law_enter_33 : decode M_Law_enter.2.1 33 = .ok (.aload_n 0, 1) := by decide +kernel
theorem d_Law_enter_34 : decode M_Law_enter.2.1 34 = .ok (.getfield 34, 3) := by decide +kernel
theorem d_Law_enter_37 : decode M_Law_enter.2.1 37 = .ok (.iastore, 1) := by decide +kernel
theorem d_Law_enter_38 : decode M_Law_enter.2.1 38 = .ok (.aload_n 0, 1) := by decide +kernel
theorem d_Law_enter_39 : decode M_Law_enter.2.1 39 = .ok (.getfield 21, 3) := by decide +kernel
theorem d_Law_enter_42 : decode M_Law_enter.2.1 42 = .ok (.aload_n 0, 1) := by decide +kernel
theorem d_Law_enter_43 : decode M_Law_enter.2.1 43 = .ok (.getfield 30, 3) := by decide +kernel
theorem d_Law_enter_46 : decode M_Law_enter.2.1 46 = .ok (.iload_n 1, 1) := by decide +kernel
theorem d_Law_enter_47 : decode M_Law_enter.2.1 47 = .ok (.iastore, 1) := by decide +kernel
theorem d_Law_enter_48 : decode M_Law_enter.2.1 48 = .ok (.aload_n 0, 1) := by decide +kernel
theorem d_Law_enter_49 : decode M_Law_enter.2.1 49 = .ok (.dup, 1) := by decide +kernel
theorem d_Law_enter_50 : decode M_Law_enter.2.1 50 = .ok (.getfield 30, 3) := by decide +kernel
theorem d_Law_enter_53 : decode M_Law_enter.2.1 53 = .ok (.iconst 1, 1) := by decide +kernel
theorem d_Law_enter_54 : decode M_Law_enter.2.1 54 = .ok (.iadd, 1) := by decide +kernel
theorem d_Law_enter_55 : decode M_Law_enter.2.1 55 = .ok (.putfield 30, 3) := by decide +kernel
theorem d_Law_enter_58 : decode M_Law_enter.2.1 58 = .ok (.return_, 1) := by decide +kernel
theorem d_Reader_readClause_0 : decode M_Reader_readClause.2.1 0 = .ok (.aload_n 0, 1) := by decide +kernel
theorem d_Reader_readClause_1 : decode M_Reader_readClause.2.1 1 = .ok (.aload_n 0, 1) := by decide +kernel
theorem d_Reader_readClause_2 : decode M_Reader_readClause.2.1 2 = .ok (.invokevirtual 48, 3) := by decide +kernel
theorem d_Reader_readClause_5 : decode M_Reader_readClause.2.1 5 = .ok (.putfield 66, 3) := by decide +kernel
theorem d_Reader_readClause_8 : decode M_Reader_readClause.2.1 8 = .ok (.aload_n 0, 1) := by decide +kernel
theorem d_Reader_readClause_9 : decode M_Reader_readClause.2.1 9 = .ok (.getfield 66, 3) := by decide +kernel
theorem d_Reader_readClause_12 : decode M_Reader_readClause.2.1 12 = .ok (.bipush 6, 2) := by decide +kernel
theorem d_Reader_readClause_14 : decode M_Reader_readClause.2.1 14 = .ok (.invokestatic 69, 3) := by decide +kernel
theorem d_Reader_readClause_17 : decode M_Reader_readClause.2.1 17 = .ok (.ifCond .ne 9, 3) := by decide +kernel
theorem d_Reader_readClause_20 : decode M_Reader_readClause.2.1 20 = .ok (.aload_n 0, 1) := by decide +kernel
theorem d_Reader_readClause_21 : decode M_Reader_readClause.2.1 21 = .ok (.iconst 1, 1) := by decide +kernel
theorem d_Reader_readClause_22 : decode M_Reader_readClause.2.1 22 = .ok (.invokevirtual 73, 3) := by decide +kernel
theorem d_Reader_readClause_25 : decode M_Reader_readClause.2.1 25 = .ok (.ireturn, 1) := by decide +kernel
theorem d_Reader_readClause_26 : decode M_Reader_readClause.2.1 26 = .ok (.aload_n 0, 1) := by decide +kernel
theorem d_Reader_readClause_27 : decode M_Reader_readClause.2.1 27 = .ok (.getfield 22, 3) := by decide +kernel
theorem d_Reader_readClause_30 : decode M_Reader_readClause.2.1 30 = .ok (.aload_n 0, 1) := by decide +kernel
theorem d_Reader_readClause_31 : decode M_Reader_readClause.2.1 31 = .ok (.getfield 66, 3) := by decide +kernel
theorem d_Reader_readClause_34 : decode M_Reader_readClause.2.1 34 = .ok (.invokevirtual 77, 3) := by decide +kernel
theorem d_Reader_readClause_37 : decode M_Reader_readClause.2.1 37 = .ok (.ifCond .eq 9, 3) := by decide +kernel
theorem d_Reader_readClause_40 : decode M_Reader_readClause.2.1 40 = .ok (.aload_n 0, 1) := by decide +kernel
theorem d_Reader_readClause_41 : decode M_Reader_readClause.2.1 41 = .ok (.iconst 4, 1) := by decide +kernel
theorem d_Reader_readClause_42 : decode M_Reader_readClause.2.1 42 = .ok (.invokevirtual 73, 3) := by decide +kernel
theorem d_Reader_readClause_45 : decode M_Reader_readClause.2.1 45 = .ok (.ireturn, 1) := by decide +kernel
theorem d_Reader_readClause_46 : decode M_Reader_readClause.2.1 46 = .ok (.aload_n 0, 1) := by decide +kernel
theorem d_Reader_readClause_47 : decode M_Reader_readClause.2.1 47 = .ok (.dup, 1) := by decide +kernel
theorem d_Reader_readClause_48 : decode M_Reader_readClause.2.1 48 = .ok (.getfield 38, 3) := by decide +kernel
theorem d_Reader_readClause_51 : decode M_Reader_readClause.2.1 51 = .ok (.iconst 1, 1) := by decide +kernel
theorem d_Reader_readClause_52 : decode M_Reader_readClause.2.1 52 = .ok (.iadd, 1) := by decide +kernel
theorem d_Reader_readClause_53 : decode M_Reader_readClause.2.1 53 = .ok (.putfield 38, 3) := by decide +kernel
theorem d_Reader_readClause_56 : decode M_Reader_readClause.2.1 56 = .ok (.aload_n 0, 1) := by decide +kernel
theorem d_Reader_readClause_57 : decode M_Reader_readClause.2.1 57 = .ok (.getfield 22, 3) := by decide +kernel
theorem d_Reader_readClause_60 : decode M_Reader_readClause.2.1 60 = .ok (.getfield 80, 3) := by decide +kernel
theorem d_Reader_readClause_63 : decode M_Reader_readClause.2.1 63 = .ok (.istore_n 1, 1) := by decide +kernel
theorem d_Reader_readClause_64 : decode M_Reader_readClause.2.1 64 = .ok (.aload_n 0, 1) := by decide +kernel
theorem d_Reader_readClause_65 : decode M_Reader_readClause.2.1 65 = .ok (.getfield 66, 3) := by decide +kernel
theorem d_Reader_readClause_68 : decode M_Reader_readClause.2.1 68 = .ok (.iconst 2, 1) := by decide +kernel
theorem d_Reader_readClause_69 : decode M_Reader_readClause.2.1 69 = .ok (.if_icmp .eq 19, 3) := by decide +kernel
theorem d_Reader_readClause_72 : decode M_Reader_readClause.2.1 72 = .ok (.aload_n 0, 1) := by decide +kernel
theorem d_Reader_readClause_73 : decode M_Reader_readClause.2.1 73 = .ok (.getfield 66, 3) := by decide +kernel
theorem d_Reader_readClause_76 : decode M_Reader_readClause.2.1 76 = .ok (.iconst 3, 1) := by decide +kernel
theorem d_Reader_readClause_77 : decode M_Reader_readClause.2.1 77 = .ok (.if_icmp .eq 11, 3) := by decide +kernel
theorem d_Reader_readClause_80 : decode M_Reader_readClause.2.1 80 = .ok (.aload_n 0, 1) := by decide +kernel
theorem d_Reader_readClause_81 : decode M_Reader_readClause.2.1 81 = .ok (.getfield 66, 3) := by decide +kernel
theorem d_Reader_readClause_84 : decode M_Reader_readClause.2.1 84 = .ok (.iconst 5, 1) := by decide +kernel
theorem d_Reader_readClause_85 : decode M_Reader_readClause.2.1 85 = .ok (.if_icmp .ne 7, 3) := by decide +kernel
theorem d_Reader_readClause_88 : decode M_Reader_readClause.2.1 88 = .ok (.iconst 1, 1) := by decide +kernel
theorem d_Reader_readClause_89 : decode M_Reader_readClause.2.1 89 = .ok (.goto 4, 3) := by decide +kernel
theorem d_Reader_readClause_92 : decode M_Reader_readClause.2.1 92 = .ok (.iconst 0, 1) := by decide +kernel
theorem d_Reader_readClause_93 : decode M_Reader_readClause.2.1 93 = .ok (.istore_n 2, 1) := by decide +kernel
theorem d_Reader_readClause_94 : decode M_Reader_readClause.2.1 94 = .ok (.iload_n 2, 1) := by decide +kernel
theorem d_Reader_readClause_95 : decode M_Reader_readClause.2.1 95 = .ok (.ifCond .eq 14, 3) := by decide +kernel
theorem d_Reader_readClause_98 : decode M_Reader_readClause.2.1 98 = .ok (.aload_n 0, 1) := by decide +kernel
theorem d_Reader_readClause_99 : decode M_Reader_readClause.2.1 99 = .ok (.iconst 0, 1) := by decide +kernel
theorem d_Reader_readClause_100 : decode M_Reader_readClause.2.1 100 = .ok (.invokevirtual 83, 3) := by decide +kernel
theorem d_Reader_readClause_103 : decode M_Reader_readClause.2.1 103 = .ok (.ifCond .ne 15, 3) := by decide +kernel
theorem d_Reader_readClause_106 : decode M_Reader_readClause.2.1 106 = .ok (.goto 10, 3) := by decide +kernel
theorem d_Reader_readClause_109 : decode M_Reader_readClause.2.1 109 = .ok (.aload_n 0, 1) := by decide +kernel
theorem d_Reader_readClause_110 : decode M_Reader_readClause.2.1 110 = .ok (.invokevirtual 86, 3) := by decide +kernel
theorem d_Reader_readClause_113 : decode M_Reader_readClause.2.1 113 = .ok (.ifCond .ne 5, 3) := by decide +kernel
theorem d_Reader_readClause_116 : decode M_Reader_readClause.2.1 116 = .ok (.iconst 0, 1) := by decide +kernel
theorem d_Reader_readClause_117 : decode M_Reader_readClause.2.1 117 = .ok (.ireturn, 1) := by decide +kernel
theorem d_Reader_readClause_118 : decode M_Reader_readClause.2.1 118 = .ok (.aload_n 0, 1) := by decide +kernel
theorem d_Reader_readClause_119 : decode M_Reader_readClause.2.1 119 = .ok (.invokevirtual 48, 3) := by decide +kernel
theorem d_Reader_readClause_122 : decode M_Reader_readClause.2.1 122 = .ok (.bipush 34, 2) := by decide +kernel
theorem d_Reader_readClause_124 : decode M_Reader_readClause.2.1 124 = .ok (.if_icmp .eq 9, 3) := by decide +kernel
theorem d_Reader_readClause_127 : decode M_Reader_readClause.2.1 127 = .ok (.aload_n 0, 1) := by decide +kernel
theorem d_Reader_readClause_128 : decode M_Reader_readClause.2.1 128 = .ok (.iconst 1, 1) := by decide +kernel
theorem d_Reader_readClause_129 : decode M_Reader_readClause.2.1 129 = .ok (.invokevirtual 73, 3) := by decide +kernel
theorem d_Reader_readClause_132 : decode M_Reader_readClause.2.1 132 = .ok (.ireturn, 1) := by decide +kernel
theorem d_Reader_readClause_133 : decode M_Reader_readClause.2.1 133 = .ok (.aload_n 0, 1) := by decide +kernel
theorem d_Reader_readClause_134 : decode M_Reader_readClause.2.1 134 = .ok (.dup, 1) := by decide +kernel
theorem d_Reader_readClause_135 : decode M_Reader_readClause.2.1 135 = .ok (.getfield 38, 3) := by decide +kernel
theorem d_Reader_readClause_138 : decode M_Reader_readClause.2.1 138 = .ok (.iconst 1, 1) := by decide +kernel
theorem d_Reader_readClause_139 : decode M_Reader_readClause.2.1 139 = .ok (.iadd, 1) := by decide +kernel
theorem d_Reader_readClause_140 : decode M_Reader_readClause.2.1 140 = .ok (.putfield 38, 3) := by decide +kernel
theorem d_Reader_readClause_143 : decode M_Reader_readClause.2.1 143 = .ok (.aload_n 0, 1) := by decide +kernel
theorem d_Reader_readClause_144 : decode M_Reader_readClause.2.1 144 = .ok (.getfield 22, 3) := by decide +kernel
theorem d_Reader_readClause_147 : decode M_Reader_readClause.2.1 147 = .ok (.aload_n 0, 1) := by decide +kernel
theorem d_Reader_readClause_148 : decode M_Reader_readClause.2.1 148 = .ok (.getfield 66, 3) := by decide +kernel
theorem d_Reader_readClause_151 : decode M_Reader_readClause.2.1 151 = .ok (.iload_n 1, 1) := by decide +kernel
theorem d_Reader_readClause_152 : decode M_Reader_readClause.2.1 152 = .ok (.invokevirtual 89, 3) := by decide +kernel
theorem d_Reader_readClause_155 : decode M_Reader_readClause.2.1 155 = .ok (.iconst 1, 1) := by decide +kernel
theorem d_Reader_readClause_156 : decode M_Reader_readClause.2.1 156 = .ok (.ireturn, 1) := by decide +kernel
theorem d_Reader_read_0 : decode M_Reader_read.2.1 0 = .ok (.aload_n 0, 1) := by decide +kernel
theorem d_Reader_read_1 : decode M_Reader_read.2.1 1 = .ok (.iconst 1, 1) := by decide +kernel
theorem d_Reader_read_2 : decode M_Reader_read.2.1 2 = .ok (.putfield 26, 3) := by decide +kernel
theorem d_Reader_read_5 : decode M_Reader_read.2.1 5 = .ok (.aload_n 0, 1) := by decide +kernel
theorem d_Reader_read_6 : decode M_Reader_read.2.1 6 = .ok (.iconst 0, 1) := by decide +kernel
theorem d_Reader_read_7 : decode M_Reader_read.2.1 7 = .ok (.putfield 30, 3) := by decide +kernel
theorem d_Reader_read_10 : decode M_Reader_read.2.1 10 = .ok (.aload_n 0, 1) := by decide +kernel
theorem d_Reader_read_11 : decode M_Reader_read.2.1 11 = .ok (.iconst (-1), 1) := by decide +kernel
theorem d_Reader_read_12 : decode M_Reader_read.2.1 12 = .ok (.putfield 9, 3) := by decide +kernel
theorem d_Reader_read_15 : decode M_Reader_read.2.1 15 = .ok (.aload_n 0, 1) := by decide +kernel
theorem d_Reader_read_16 : decode M_Reader_read.2.1 16 = .ok (.aload_n 2, 1) := by decide +kernel
theorem d_Reader_read_17 : decode M_Reader_read.2.1 17 = .ok (.putfield 22, 3) := by decide +kernel
theorem d_Reader_read_20 : decode M_Reader_read.2.1 20 = .ok (.aload_n 0, 1) := by decide +kernel
theorem d_Reader_read_21 : decode M_Reader_read.2.1 21 = .ok (.getfield 22, 3) := by decide +kernel
theorem d_Reader_read_24 : decode M_Reader_read.2.1 24 = .ok (.invokevirtual 33, 3) := by decide +kernel
theorem d_Reader_read_27 : decode M_Reader_read.2.1 27 = .ok (.aload_n 0, 1) := by decide +kernel
theorem d_Reader_read_28 : decode M_Reader_read.2.1 28 = .ok (.iconst 0, 1) := by decide +kernel
theorem d_Reader_read_29 : decode M_Reader_read.2.1 29 = .ok (.putfield 38, 3) := by decide +kernel
theorem d_Reader_read_32 : decode M_Reader_read.2.1 32 = .ok (.aload_n 0, 1) := by decide +kernel
theorem d_Reader_read_33 : decode M_Reader_read.2.1 33 = .ok (.getfield 18, 3) := by decide +kernel
theorem d_Reader_read_36 : decode M_Reader_read.2.1 36 = .ok (.aload_n 1, 1) := by decide +kernel
theorem d_Reader_read_37 : decode M_Reader_read.2.1 37 = .ok (.invokevirtual 41, 3) := by decide +kernel
theorem d_Reader_read_40 : decode M_Reader_read.2.1 40 = .ok (.iconst 0, 1) := by decide +kernel
theorem d_Reader_read_41 : decode M_Reader_read.2.1 41 = .ok (.istore_n 3, 1) := by decide +kernel
theorem d_Reader_read_42 : decode M_Reader_read.2.1 42 = .ok (.iload_n 3, 1) := by decide +kernel
theorem d_Reader_read_43 : decode M_Reader_read.2.1 43 = .ok (.aload_n 0, 1) := by decide +kernel
theorem d_Reader_read_44 : decode M_Reader_read.2.1 44 = .ok (.getfield 18, 3) := by decide +kernel
theorem d_Reader_read_47 : decode M_Reader_read.2.1 47 = .ok (.getfield 45, 3) := by decide +kernel
theorem d_Reader_read_50 : decode M_Reader_read.2.1 50 = .ok (.if_icmp .ge 27, 3) := by decide +kernel
theorem d_Reader_read_53 : decode M_Reader_read.2.1 53 = .ok (.aload_n 0, 1) := by decide +kernel
theorem d_Reader_read_54 : decode M_Reader_read.2.1 54 = .ok (.invokevirtual 48, 3) := by decide +kernel
theorem d_Reader_read_57 : decode M_Reader_read.2.1 57 = .ok (.bipush 37, 2) := by decide +kernel
theorem d_Reader_read_59 : decode M_Reader_read.2.1 59 = .ok (.if_icmp .eq 18, 3) := by decide +kernel
theorem d_Reader_read_62 : decode M_Reader_read.2.1 62 = .ok (.aload_n 0, 1) := by decide +kernel
theorem d_Reader_read_63 : decode M_Reader_read.2.1 63 = .ok (.invokevirtual 52, 3) := by decide +kernel
theorem d_Reader_read_66 : decode M_Reader_read.2.1 66 = .ok (.ifCond .ne 5, 3) := by decide +kernel
theorem d_Reader_read_69 : decode M_Reader_read.2.1 69 = .ok (.iconst 0, 1) := by decide +kernel
theorem d_Reader_read_70 : decode M_Reader_read.2.1 70 = .ok (.ireturn, 1) := by decide +kernel
theorem d_Reader_read_71 : decode M_Reader_read.2.1 71 = .ok (.iinc 3 1, 3) := by decide +kernel
theorem d_Reader_read_74 : decode M_Reader_read.2.1 74 = .ok (.goto (-32), 3) := by decide +kernel
theorem d_Reader_read_77 : decode M_Reader_read.2.1 77 = .ok (.iconst 1, 1) := by decide +kernel
theorem d_Reader_read_78 : decode M_Reader_read.2.1 78 = .ok (.ireturn, 1) := by decide +kernel
theorem d_Ww_text_0 : decode M_Ww_text.2.1 0 = .ok (.aload_n 0, 1) := by decide +kernel
theorem d_Ww_text_1 : decode M_Ww_text.2.1 1 = .ok (.getfield 31, 3) := by decide +kernel
theorem d_Ww_text_4 : decode M_Ww_text.2.1 4 = .ok (.aload_n 0, 1) := by decide +kernel
theorem d_Ww_text_5 : decode M_Ww_text.2.1 5 = .ok (.getfield 10, 3) := by decide +kernel
theorem d_Ww_text_8 : decode M_Ww_text.2.1 8 = .ok (.getfield 114, 3) := by decide +kernel
theorem d_Ww_text_11 : decode M_Ww_text.2.1 11 = .ok (.invokevirtual 117, 3) := by decide +kernel
theorem d_Ww_text_14 : decode M_Ww_text.2.1 14 = .ok (.astore_n 1, 1) := by decide +kernel
theorem d_Ww_text_15 : decode M_Ww_text.2.1 15 = .ok (.aload_n 1, 1) := by decide +kernel
theorem d_Ww_text_16 : decode M_Ww_text.2.1 16 = .ok (.ifnonnull 5, 3) := by decide +kernel
theorem d_Ww_text_19 : decode M_Ww_text.2.1 19 = .ok (.iconst (-1), 1) := by decide +kernel
theorem d_Ww_text_20 : decode M_Ww_text.2.1 20 = .ok (.ireturn, 1) := by decide +kernel
theorem d_Ww_text_21 : decode M_Ww_text.2.1 21 = .ok (.aload_n 0, 1) := by decide +kernel
theorem d_Ww_text_22 : decode M_Ww_text.2.1 22 = .ok (.getfield 44, 3) := by decide +kernel
theorem d_Ww_text_25 : decode M_Ww_text.2.1 25 = .ok (.aload_n 0, 1) := by decide +kernel
theorem d_Ww_text_26 : decode M_Ww_text.2.1 26 = .ok (.getfield 22, 3) := by decide +kernel
theorem d_Ww_text_29 : decode M_Ww_text.2.1 29 = .ok (.aload_n 1, 1) := by decide +kernel
theorem d_Ww_text_30 : decode M_Ww_text.2.1 30 = .ok (.invokevirtual 121, 3) := by decide +kernel
theorem d_Ww_text_33 : decode M_Ww_text.2.1 33 = .ok (.istore_n 2, 1) := by decide +kernel
theorem d_Ww_text_34 : decode M_Ww_text.2.1 34 = .ok (.aload_n 0, 1) := by decide +kernel
theorem d_Ww_text_35 : decode M_Ww_text.2.1 35 = .ok (.getfield 22, 3) := by decide +kernel
theorem d_Ww_text_38 : decode M_Ww_text.2.1 38 = .ok (.iconst 0, 1) := by decide +kernel
theorem d_Ww_text_39 : decode M_Ww_text.2.1 39 = .ok (.putfield 107, 3) := by decide +kernel
theorem d_Ww_text_42 : decode M_Ww_text.2.1 42 = .ok (.iload_n 2, 1) := by decide +kernel
theorem d_Ww_text_43 : decode M_Ww_text.2.1 43 = .ok (.ifCond .ne 5, 3) := by decide +kernel
theorem d_Ww_text_46 : decode M_Ww_text.2.1 46 = .ok (.iconst (-1), 1) := by decide +kernel
theorem d_Ww_text_47 : decode M_Ww_text.2.1 47 = .ok (.ireturn, 1) := by decide +kernel
theorem d_Ww_text_48 : decode M_Ww_text.2.1 48 = .ok (.aload_n 0, 1) := by decide +kernel
theorem d_Ww_text_49 : decode M_Ww_text.2.1 49 = .ok (.getfield 10, 3) := by decide +kernel
theorem d_Ww_text_52 : decode M_Ww_text.2.1 52 = .ok (.dup, 1) := by decide +kernel
theorem d_Ww_text_53 : decode M_Ww_text.2.1 53 = .ok (.getfield 114, 3) := by decide +kernel
theorem d_Ww_text_56 : decode M_Ww_text.2.1 56 = .ok (.iconst 1, 1) := by decide +kernel
theorem d_Ww_text_57 : decode M_Ww_text.2.1 57 = .ok (.iadd, 1) := by decide +kernel
theorem d_Ww_text_58 : decode M_Ww_text.2.1 58 = .ok (.putfield 114, 3) := by decide +kernel
theorem d_Ww_text_61 : decode M_Ww_text.2.1 61 = .ok (.aload_n 0, 1) := by decide +kernel
theorem d_Ww_text_62 : decode M_Ww_text.2.1 62 = .ok (.getfield 10, 3) := by decide +kernel
theorem d_Ww_text_65 : decode M_Ww_text.2.1 65 = .ok (.getfield 114, 3) := by decide +kernel
theorem d_Ww_text_68 : decode M_Ww_text.2.1 68 = .ok (.iconst 1, 1) := by decide +kernel
theorem d_Ww_text_69 : decode M_Ww_text.2.1 69 = .ok (.isub, 1) := by decide +kernel
theorem d_Ww_text_70 : decode M_Ww_text.2.1 70 = .ok (.ireturn, 1) := by decide +kernel
theorem d_Ww_fault_0 : decode M_Ww_fault.2.1 0 = .ok (.aload_n 0, 1) := by decide +kernel
theorem d_Ww_fault_1 : decode M_Ww_fault.2.1 1 = .ok (.getfield 44, 3) := by decide +kernel
theorem d_Ww_fault_4 : decode M_Ww_fault.2.1 4 = .ok (.getfield 125, 3) := by decide +kernel
theorem d_Ww_fault_7 : decode M_Ww_fault.2.1 7 = .ok (.ifCond .ne 5, 3) := by decide +kernel
theorem d_Ww_fault_10 : decode M_Ww_fault.2.1 10 = .ok (.iconst (-1), 1) := by decide +kernel
theorem d_Ww_fault_11 : decode M_Ww_fault.2.1 11 = .ok (.ireturn, 1) := by decide +kernel
theorem d_Ww_fault_12 : decode M_Ww_fault.2.1 12 = .ok (.iload_n 1, 1) := by decide +kernel
theorem d_Ww_fault_13 : decode M_Ww_fault.2.1 13 = .ok (.ifCond .ne 11, 3) := by decide +kernel
theorem d_Ww_fault_16 : decode M_Ww_fault.2.1 16 = .ok (.aload_n 0, 1) := by decide +kernel
theorem d_Ww_fault_17 : decode M_Ww_fault.2.1 17 = .ok (.getfield 44, 3) := by decide +kernel
theorem d_Ww_fault_20 : decode M_Ww_fault.2.1 20 = .ok (.getfield 129, 3) := by decide +kernel
theorem d_Ww_fault_23 : decode M_Ww_fault.2.1 23 = .ok (.ireturn, 1) := by decide +kernel
theorem d_Ww_fault_24 : decode M_Ww_fault.2.1 24 = .ok (.iload_n 1, 1) := by decide +kernel
theorem d_Ww_fault_25 : decode M_Ww_fault.2.1 25 = .ok (.iconst 1, 1) := by decide +kernel
theorem d_Ww_fault_26 : decode M_Ww_fault.2.1 26 = .ok (.if_icmp .ne 13, 3) := by decide +kernel
theorem d_Ww_fault_29 : decode M_Ww_fault.2.1 29 = .ok (.aload_n 0, 1) := by decide +kernel
theorem d_Ww_fault_30 : decode M_Ww_fault.2.1 30 = .ok (.getfield 44, 3) := by decide +kernel
theorem d_Ww_fault_33 : decode M_Ww_fault.2.1 33 = .ok (.getfield 132, 3) := by decide +kernel
theorem d_Ww_fault_36 : decode M_Ww_fault.2.1 36 = .ok (.goto 4, 3) := by decide +kernel
theorem d_Ww_fault_39 : decode M_Ww_fault.2.1 39 = .ok (.iconst (-1), 1) := by decide +kernel
theorem d_Ww_fault_40 : decode M_Ww_fault.2.1 40 = .ok (.ireturn, 1) := by decide +kernel
theorem d_Ww_by_0 : decode M_Ww_by.2.1 0 = .ok (.iload_n 1, 1) := by decide +kernel
theorem d_Ww_by_1 : decode M_Ww_by.2.1 1 = .ok (.iconst (-1), 1) := by decide +kernel
theorem d_Ww_by_2 : decode M_Ww_by.2.1 2 = .ok (.if_icmp .eq 19, 3) := by decide +kernel
theorem d_Ww_by_5 : decode M_Ww_by.2.1 5 = .ok (.iload_n 1, 1) := by decide +kernel
theorem d_Ww_by_6 : decode M_Ww_by.2.1 6 = .ok (.aload_n 0, 1) := by decide +kernel
theorem d_Ww_by_7 : decode M_Ww_by.2.1 7 = .ok (.getfield 10, 3) := by decide +kernel
theorem d_Ww_by_10 : decode M_Ww_by.2.1 10 = .ok (.getfield 114, 3) := by decide +kernel
theorem d_Ww_by_13 : decode M_Ww_by.2.1 13 = .ok (.invokestatic 80, 3) := by decide +kernel
theorem d_Ww_by_16 : decode M_Ww_by.2.1 16 = .ok (.ifCond .ne 5, 3) := by decide +kernel
theorem d_Ww_by_19 : decode M_Ww_by.2.1 19 = .ok (.iconst 0, 1) := by decide +kernel
theorem d_Ww_by_20 : decode M_Ww_by.2.1 20 = .ok (.ireturn, 1) := by decide +kernel
theorem d_Ww_by_21 : decode M_Ww_by.2.1 21 = .ok (.aload_n 0, 1) := by decide +kernel
theorem d_Ww_by_22 : decode M_Ww_by.2.1 22 = .ok (.getfield 10, 3) := by decide +kernel
theorem d_Ww_by_25 : decode M_Ww_by.2.1 25 = .ok (.iload_n 1, 1) := by decide +kernel
theorem d_Ww_by_26 : decode M_Ww_by.2.1 26 = .ok (.putfield 135, 3) := by decide +kernel
theorem d_Ww_by_29 : decode M_Ww_by.2.1 29 = .ok (.iconst 1, 1) := by decide +kernel
theorem d_Ww_by_30 : decode M_Ww_by.2.1 30 = .ok (.ireturn, 1) := by decide +kernel
theorem d_Ww_areDays_0 : decode M_Ww_areDays.2.1 0 = .ok (.iload_n 0, 1) := by decide +kernel
theorem d_Ww_areDays_1 : decode M_Ww_areDays.2.1 1 = .ok (.ifCond .lt 18, 3) := by decide +kernel
theorem d_Ww_areDays_4 : decode M_Ww_areDays.2.1 4 = .ok (.iload_n 0, 1) := by decide +kernel
theorem d_Ww_areDays_5 : decode M_Ww_areDays.2.1 5 = .ok (.iload_n 1, 1) := by decide +kernel
theorem d_Ww_areDays_6 : decode M_Ww_areDays.2.1 6 = .ok (.if_icmp .gt 13, 3) := by decide +kernel
theorem d_Ww_areDays_9 : decode M_Ww_areDays.2.1 9 = .ok (.iload_n 1, 1) := by decide +kernel
theorem d_Ww_areDays_10 : decode M_Ww_areDays.2.1 10 = .ok (.bipush 30, 2) := by decide +kernel
theorem d_Ww_areDays_12 : decode M_Ww_areDays.2.1 12 = .ok (.if_icmp .ge 7, 3) := by decide +kernel
theorem d_Ww_areDays_15 : decode M_Ww_areDays.2.1 15 = .ok (.iconst 1, 1) := by decide +kernel
theorem d_Ww_areDays_16 : decode M_Ww_areDays.2.1 16 = .ok (.goto 4, 3) := by decide +kernel
theorem d_Ww_areDays_19 : decode M_Ww_areDays.2.1 19 = .ok (.iconst 0, 1) := by decide +kernel
theorem d_Ww_areDays_20 : decode M_Ww_areDays.2.1 20 = .ok (.ireturn, 1) := by decide +kernel
theorem d_Shelf_ruling_0 : decode M_Shelf_ruling.2.1 0 = .ok (.aload_n 0, 1) := by decide +kernel
theorem d_Shelf_ruling_1 : decode M_Shelf_ruling.2.1 1 = .ok (.getfield 22, 3) := by decide +kernel
theorem d_Shelf_ruling_4 : decode M_Shelf_ruling.2.1 4 = .ok (.getfield 30, 3) := by decide +kernel
theorem d_Shelf_ruling_7 : decode M_Shelf_ruling.2.1 7 = .ok (.istore_n 1, 1) := by decide +kernel
theorem d_Shelf_ruling_8 : decode M_Shelf_ruling.2.1 8 = .ok (.iload_n 1, 1) := by decide +kernel
theorem d_Shelf_ruling_9 : decode M_Shelf_ruling.2.1 9 = .ok (.ifCond .lt 21, 3) := by decide +kernel
theorem d_Shelf_ruling_12 : decode M_Shelf_ruling.2.1 12 = .ok (.iload_n 1, 1) := by decide +kernel
theorem d_Shelf_ruling_13 : decode M_Shelf_ruling.2.1 13 = .ok (.aload_n 0, 1) := by decide +kernel
theorem d_Shelf_ruling_14 : decode M_Shelf_ruling.2.1 14 = .ok (.getfield 18, 3) := by decide +kernel
theorem d_Shelf_ruling_17 : decode M_Shelf_ruling.2.1 17 = .ok (.arraylength, 1) := by decide +kernel
theorem d_Shelf_ruling_18 : decode M_Shelf_ruling.2.1 18 = .ok (.if_icmp .ge 12, 3) := by decide +kernel
theorem d_Shelf_ruling_21 : decode M_Shelf_ruling.2.1 21 = .ok (.aload_n 0, 1) := by decide +kernel
theorem d_Shelf_ruling_22 : decode M_Shelf_ruling.2.1 22 = .ok (.getfield 18, 3) := by decide +kernel
theorem d_Shelf_ruling_25 : decode M_Shelf_ruling.2.1 25 = .ok (.iload_n 1, 1) := by decide +kernel
theorem d_Shelf_ruling_26 : decode M_Shelf_ruling.2.1 26 = .ok (.aaload, 1) := by decide +kernel
theorem d_Shelf_ruling_27 : decode M_Shelf_ruling.2.1 27 = .ok (.goto 4, 3) := by decide +kernel
theorem d_Shelf_ruling_30 : decode M_Shelf_ruling.2.1 30 = .ok (.aconst_null, 1) := by decide +kernel
theorem d_Shelf_ruling_31 : decode M_Shelf_ruling.2.1 31 = .ok (.astore_n 2, 1) := by decide +kernel
theorem d_Shelf_ruling_32 : decode M_Shelf_ruling.2.1 32 = .ok (.aload_n 2, 1) := by decide +kernel
theorem d_Shelf_ruling_33 : decode M_Shelf_ruling.2.1 33 = .ok (.ifnonnull 10, 3) := by decide +kernel
theorem d_Shelf_ruling_36 : decode M_Shelf_ruling.2.1 36 = .ok (.aload_n 0, 1) := by decide +kernel
theorem d_Shelf_ruling_37 : decode M_Shelf_ruling.2.1 37 = .ok (.getfield 12, 3) := by decide +kernel
theorem d_Shelf_ruling_40 : decode M_Shelf_ruling.2.1 40 = .ok (.goto 4, 3) := by decide +kernel
theorem d_Shelf_ruling_43 : decode M_Shelf_ruling.2.1 43 = .ok (.aload_n 2, 1) := by decide +kernel
theorem d_Shelf_ruling_44 : decode M_Shelf_ruling.2.1 44 = .ok (.areturn, 1) := by decide +kernel
theorem d_Bench_tell_0 : decode M_Bench_tell.2.1 0 = .ok (.iload_n 1, 1) := by decide +kernel
theorem d_Bench_tell_1 : decode M_Bench_tell.2.1 1 = .ok (.bipush 9, 2) := by decide +kernel
theorem d_Bench_tell_3 : decode M_Bench_tell.2.1 3 = .ok (.isub, 1) := by decide +kernel
theorem d_Bench_tell_4 : decode M_Bench_tell.2.1 4 = .ok (.bipush 13, 2) := by decide +kernel
theorem d_Bench_tell_6 : decode M_Bench_tell.2.1 6 = .ok (.invokestatic 18, 3) := by decide +kernel
theorem d_Bench_tell_9 : decode M_Bench_tell.2.1 9 = .ok (.ifCond .eq 13, 3) := by decide +kernel
theorem d_Bench_tell_12 : decode M_Bench_tell.2.1 12 = .ok (.aload_n 0, 1) := by decide +kernel
theorem d_Bench_tell_13 : decode M_Bench_tell.2.1 13 = .ok (.getfield 15, 3) := by decide +kernel
theorem d_Bench_tell_16 : decode M_Bench_tell.2.1 16 = .ok (.iload_n 1, 1) := by decide +kernel
theorem d_Bench_tell_17 : decode M_Bench_tell.2.1 17 = .ok (.bipush 9, 2) := by decide +kernel
theorem d_Bench_tell_19 : decode M_Bench_tell.2.1 19 = .ok (.isub, 1) := by decide +kernel
theorem d_Bench_tell_20 : decode M_Bench_tell.2.1 20 = .ok (.iload_n 2, 1) := by decide +kernel
theorem d_Bench_tell_21 : decode M_Bench_tell.2.1 21 = .ok (.iastore, 1) := by decide +kernel
theorem d_Bench_tell_22 : decode M_Bench_tell.2.1 22 = .ok (.return_, 1) := by decide +kernel
theorem d_Rolls_decreeOf_0 : decode M_Rolls_decreeOf.2.1 0 = .ok (.iload_n 1, 1) := by decide +kernel
theorem d_Rolls_decreeOf_1 : decode M_Rolls_decreeOf.2.1 1 = .ok (.iconst 4, 1) := by decide +kernel
theorem d_Rolls_decreeOf_2 : decode M_Rolls_decreeOf.2.1 2 = .ok (.imul, 1) := by decide +kernel
theorem d_Rolls_decreeOf_3 : decode M_Rolls_decreeOf.2.1 3 = .ok (.iload_n 2, 1) := by decide +kernel
theorem d_Rolls_decreeOf_4 : decode M_Rolls_decreeOf.2.1 4 = .ok (.iadd, 1) := by decide +kernel
theorem d_Rolls_decreeOf_5 : decode M_Rolls_decreeOf.2.1 5 = .ok (.istore_n 3, 1) := by decide +kernel
theorem d_Rolls_decreeOf_6 : decode M_Rolls_decreeOf.2.1 6 = .ok (.iload_n 3, 1) := by decide +kernel
theorem d_Rolls_decreeOf_7 : decode M_Rolls_decreeOf.2.1 7 = .ok (.aload_n 0, 1) := by decide +kernel
theorem d_Rolls_decreeOf_8 : decode M_Rolls_decreeOf.2.1 8 = .ok (.getfield 24, 3) := by decide +kernel
theorem d_Rolls_decreeOf_11 : decode M_Rolls_decreeOf.2.1 11 = .ok (.arraylength, 1) := by decide +kernel
theorem d_Rolls_decreeOf_12 : decode M_Rolls_decreeOf.2.1 12 = .ok (.invokestatic 64, 3) := by decide +kernel
theorem d_Rolls_decreeOf_15 : decode M_Rolls_decreeOf.2.1 15 = .ok (.ifCond .eq 12, 3) := by decide +kernel
theorem d_Rolls_decreeOf_18 : decode M_Rolls_decreeOf.2.1 18 = .ok (.aload_n 0, 1) := by decide +kernel
theorem d_Rolls_decreeOf_19 : decode M_Rolls_decreeOf.2.1 19 = .ok (.getfield 24, 3) := by decide +kernel
theorem d_Rolls_decreeOf_22 : decode M_Rolls_decreeOf.2.1 22 = .ok (.iload_n 3, 1) := by decide +kernel
theorem d_Rolls_decreeOf_23 : decode M_Rolls_decreeOf.2.1 23 = .ok (.iaload, 1) := by decide +kernel
theorem d_Rolls_decreeOf_24 : decode M_Rolls_decreeOf.2.1 24 = .ok (.goto 4, 3) := by decide +kernel
theorem d_Rolls_decreeOf_27 : decode M_Rolls_decreeOf.2.1 27 = .ok (.iconst 0, 1) := by decide +kernel
theorem d_Rolls_decreeOf_28 : decode M_Rolls_decreeOf.2.1 28 = .ok (.ireturn, 1) := by decide +kernel
theorem d_Rolls_lastOf_0 : decode M_Rolls_lastOf.2.1 0 = .ok (.aload_n 0, 1) := by decide +kernel
theorem d_Rolls_lastOf_1 : decode M_Rolls_lastOf.2.1 1 = .ok (.iload_n 1, 1) := by decide +kernel
theorem d_Rolls_lastOf_2 : decode M_Rolls_lastOf.2.1 2 = .ok (.iconst 1, 1) := by decide +kernel
theorem d_Rolls_lastOf_3 : decode M_Rolls_lastOf.2.1 3 = .ok (.isub, 1) := by decide +kernel
theorem d_Rolls_lastOf_4 : decode M_Rolls_lastOf.2.1 4 = .ok (.iload_n 2, 1) := by decide +kernel
theorem d_Rolls_lastOf_5 : decode M_Rolls_lastOf.2.1 5 = .ok (.invokevirtual 68, 3) := by decide +kernel
theorem d_Rolls_lastOf_8 : decode M_Rolls_lastOf.2.1 8 = .ok (.ireturn, 1) := by decide +kernel
theorem d_Rolls_skyOf_0 : decode M_Rolls_skyOf.2.1 0 = .ok (.iload_n 1, 1) := by decide +kernel
theorem d_Rolls_skyOf_1 : decode M_Rolls_skyOf.2.1 1 = .ok (.bipush 30, 2) := by decide +kernel
theorem d_Rolls_skyOf_3 : decode M_Rolls_skyOf.2.1 3 = .ok (.invokestatic 64, 3) := by decide +kernel
theorem d_Rolls_skyOf_6 : decode M_Rolls_skyOf.2.1 6 = .ok (.ifCond .eq 12, 3) := by decide +kernel
theorem d_Rolls_skyOf_9 : decode M_Rolls_skyOf.2.1 9 = .ok (.aload_n 0, 1) := by decide +kernel
theorem d_Rolls_skyOf_10 : decode M_Rolls_skyOf.2.1 10 = .ok (.getfield 21, 3) := by decide +kernel
theorem d_Rolls_skyOf_13 : decode M_Rolls_skyOf.2.1 13 = .ok (.iload_n 1, 1) := by decide +kernel
theorem d_Rolls_skyOf_14 : decode M_Rolls_skyOf.2.1 14 = .ok (.iaload, 1) := by decide +kernel
theorem d_Rolls_skyOf_15 : decode M_Rolls_skyOf.2.1 15 = .ok (.goto 4, 3) := by decide +kernel
theorem d_Rolls_skyOf_18 : decode M_Rolls_skyOf.2.1 18 = .ok (.iconst 0, 1) := by decide +kernel
theorem d_Rolls_skyOf_19 : decode M_Rolls_skyOf.2.1 19 = .ok (.ireturn, 1) := by decide +kernel
theorem d_Rolls_seenOn_0 : decode M_Rolls_seenOn.2.1 0 = .ok (.aload_n 0, 1) := by decide +kernel
theorem d_Rolls_seenOn_1 : decode M_Rolls_seenOn.2.1 1 = .ok (.iload_n 1, 1) := by decide +kernel
theorem d_Rolls_seenOn_2 : decode M_Rolls_seenOn.2.1 2 = .ok (.iconst 1, 1) := by decide +kernel
theorem d_Rolls_seenOn_3 : decode M_Rolls_seenOn.2.1 3 = .ok (.isub, 1) := by decide +kernel
theorem d_Rolls_seenOn_4 : decode M_Rolls_seenOn.2.1 4 = .ok (.invokevirtual 72, 3) := by decide +kernel
theorem d_Rolls_seenOn_7 : decode M_Rolls_seenOn.2.1 7 = .ok (.ireturn, 1) := by decide +kernel
theorem d_Law_stopOf_0 : decode M_Law_stopOf.2.1 0 = .ok (.iload_n 1, 1) := by decide +kernel
theorem d_Law_stopOf_1 : decode M_Law_stopOf.2.1 1 = .ok (.ifCond .lt 18, 3) := by decide +kernel
theorem d_Law_stopOf_4 : decode M_Law_stopOf.2.1 4 = .ok (.iload_n 1, 1) := by decide +kernel
theorem d_Law_stopOf_5 : decode M_Law_stopOf.2.1 5 = .ok (.bipush 6, 2) := by decide +kernel
theorem d_Law_stopOf_7 : decode M_Law_stopOf.2.1 7 = .ok (.if_icmp .ge 12, 3) := by decide +kernel
theorem d_Law_stopOf_10 : decode M_Law_stopOf.2.1 10 = .ok (.aload_n 0, 1) := by decide +kernel
theorem d_Law_stopOf_11 : decode M_Law_stopOf.2.1 11 = .ok (.getfield 18, 3) := by decide +kernel
theorem d_Law_stopOf_14 : decode M_Law_stopOf.2.1 14 = .ok (.iload_n 1, 1) := by decide +kernel
theorem d_Law_stopOf_15 : decode M_Law_stopOf.2.1 15 = .ok (.iaload, 1) := by decide +kernel
theorem d_Law_stopOf_16 : decode M_Law_stopOf.2.1 16 = .ok (.goto 4, 3) := by decide +kernel
theorem d_Law_stopOf_19 : decode M_Law_stopOf.2.1 19 = .ok (.iconst 0, 1) := by decide +kernel
theorem d_Law_stopOf_20 : decode M_Law_stopOf.2.1 20 = .ok (.ireturn, 1) := by decide +kernel
theorem d_Law_startOf_0 : decode M_Law_startOf.2.1 0 = .ok (.iload_n 1, 1) := by decide +kernel
theorem d_Law_startOf_1 : decode M_Law_startOf.2.1 1 = .ok (.ifCond .lt 18, 3) := by decide +kernel
theorem d_Law_startOf_4 : decode M_Law_startOf.2.1 4 = .ok (.iload_n 1, 1) := by decide +kernel
theorem d_Law_startOf_5 : decode M_Law_startOf.2.1 5 = .ok (.bipush 6, 2) := by decide +kernel
theorem d_Law_startOf_7 : decode M_Law_startOf.2.1 7 = .ok (.if_icmp .ge 12, 3) := by decide +kernel
theorem d_Law_startOf_10 : decode M_Law_startOf.2.1 10 = .ok (.aload_n 0, 1) := by decide +kernel
theorem d_Law_startOf_11 : decode M_Law_startOf.2.1 11 = .ok (.getfield 15, 3) := by decide +kernel
theorem d_Law_startOf_14 : decode M_Law_startOf.2.1 14 = .ok (.iload_n 1, 1) := by decide +kernel
theorem d_Law_startOf_15 : decode M_Law_startOf.2.1 15 = .ok (.iaload, 1) := by decide +kernel
theorem d_Law_startOf_16 : decode M_Law_startOf.2.1 16 = .ok (.goto 4, 3) := by decide +kernel
theorem d_Law_startOf_19 : decode M_Law_startOf.2.1 19 = .ok (.iconst 0, 1) := by decide +kernel
theorem d_Law_startOf_20 : decode M_Law_startOf.2.1 20 = .ok (.ireturn, 1) := by decide +kernel
theorem d_Bench_worked_0 : decode M_Bench_worked.2.1 0 = .ok (.iload_n 0, 1) := by decide +kernel
theorem d_Bench_worked_1 : decode M_Bench_worked.2.1 1 = .ok (.tableswitch 225 6 31 #[149, 145, 225, 225, 225, 225, 225, 225, 225, 225, 225, 225, 225, 225, 225, 225, 153, 165, 177, 189, 201, 213, 119, 123, 127, 131], 119) := by decide +kernel
theorem d_Bench_worked_120 : decode M_Bench_worked.2.1 120 = .ok (.lload_n 1, 1) := by decide +kernel
theorem d_Bench_worked_121 : decode M_Bench_worked.2.1 121 = .ok (.lload_n 3, 1) := by decide +kernel
theorem d_Bench_worked_122 : decode M_Bench_worked.2.1 122 = .ok (.ladd, 1) := by decide +kernel
theorem d_Bench_worked_123 : decode M_Bench_worked.2.1 123 = .ok (.lreturn, 1) := by decide +kernel
theorem d_Bench_worked_124 : decode M_Bench_worked.2.1 124 = .ok (.lload_n 1, 1) := by decide +kernel
theorem d_Bench_worked_125 : decode M_Bench_worked.2.1 125 = .ok (.lload_n 3, 1) := by decide +kernel
theorem d_Bench_worked_126 : decode M_Bench_worked.2.1 126 = .ok (.lsub, 1) := by decide +kernel
theorem d_Bench_worked_127 : decode M_Bench_worked.2.1 127 = .ok (.lreturn, 1) := by decide +kernel
theorem d_Bench_worked_128 : decode M_Bench_worked.2.1 128 = .ok (.lload_n 1, 1) := by decide +kernel
theorem d_Bench_worked_129 : decode M_Bench_worked.2.1 129 = .ok (.lload_n 3, 1) := by decide +kernel
theorem d_Bench_worked_130 : decode M_Bench_worked.2.1 130 = .ok (.lmul, 1) := by decide +kernel
theorem d_Bench_worked_131 : decode M_Bench_worked.2.1 131 = .ok (.lreturn, 1) := by decide +kernel
theorem d_Bench_worked_132 : decode M_Bench_worked.2.1 132 = .ok (.lload_n 3, 1) := by decide +kernel
theorem d_Bench_worked_133 : decode M_Bench_worked.2.1 133 = .ok (.lconst 0, 1) := by decide +kernel
theorem d_Bench_worked_134 : decode M_Bench_worked.2.1 134 = .ok (.lcmp, 1) := by decide +kernel
theorem d_Bench_worked_135 : decode M_Bench_worked.2.1 135 = .ok (.ifCond .ne 7, 3) := by decide +kernel
theorem d_Bench_worked_138 : decode M_Bench_worked.2.1 138 = .ok (.lconst 0, 1) := by decide +kernel
theorem d_Bench_worked_139 : decode M_Bench_worked.2.1 139 = .ok (.goto 6, 3) := by decide +kernel
theorem d_Bench_worked_142 : decode M_Bench_worked.2.1 142 = .ok (.lload_n 1, 1) := by decide +kernel
theorem d_Bench_worked_143 : decode M_Bench_worked.2.1 143 = .ok (.lload_n 3, 1) := by decide +kernel
theorem d_Bench_worked_144 : decode M_Bench_worked.2.1 144 = .ok (.ldiv, 1) := by decide +kernel
theorem d_Bench_worked_145 : decode M_Bench_worked.2.1 145 = .ok (.lreturn, 1) := by decide +kernel
theorem d_Bench_worked_146 : decode M_Bench_worked.2.1 146 = .ok (.lload_n 1, 1) := by decide +kernel
theorem d_Bench_worked_147 : decode M_Bench_worked.2.1 147 = .ok (.lload_n 3, 1) := by decide +kernel
theorem d_Bench_worked_148 : decode M_Bench_worked.2.1 148 = .ok (.land, 1) := by decide +kernel
theorem d_Bench_worked_149 : decode M_Bench_worked.2.1 149 = .ok (.lreturn, 1) := by decide +kernel
theorem d_Bench_worked_150 : decode M_Bench_worked.2.1 150 = .ok (.lload_n 1, 1) := by decide +kernel
theorem d_Bench_worked_151 : decode M_Bench_worked.2.1 151 = .ok (.lload_n 3, 1) := by decide +kernel
theorem d_Bench_worked_152 : decode M_Bench_worked.2.1 152 = .ok (.lor, 1) := by decide +kernel
theorem d_Bench_worked_153 : decode M_Bench_worked.2.1 153 = .ok (.lreturn, 1) := by decide +kernel
theorem d_Bench_worked_154 : decode M_Bench_worked.2.1 154 = .ok (.lload_n 1, 1) := by decide +kernel
theorem d_Bench_worked_155 : decode M_Bench_worked.2.1 155 = .ok (.lload_n 3, 1) := by decide +kernel
theorem d_Bench_worked_156 : decode M_Bench_worked.2.1 156 = .ok (.lcmp, 1) := by decide +kernel
theorem d_Bench_worked_157 : decode M_Bench_worked.2.1 157 = .ok (.ifCond .ge 7, 3) := by decide +kernel
theorem d_Bench_worked_160 : decode M_Bench_worked.2.1 160 = .ok (.lconst 1, 1) := by decide +kernel
theorem d_Bench_worked_161 : decode M_Bench_worked.2.1 161 = .ok (.goto 4, 3) := by decide +kernel
theorem d_Bench_worked_164 : decode M_Bench_worked.2.1 164 = .ok (.lconst 0, 1) := by decide +kernel
theorem d_Bench_worked_165 : decode M_Bench_worked.2.1 165 = .ok (.lreturn, 1) := by decide +kernel
theorem d_Bench_worked_166 : decode M_Bench_worked.2.1 166 = .ok (.lload_n 1, 1) := by decide +kernel
theorem d_Bench_worked_167 : decode M_Bench_worked.2.1 167 = .ok (.lload_n 3, 1) := by decide +kernel
theorem d_Bench_worked_168 : decode M_Bench_worked.2.1 168 = .ok (.lcmp, 1) := by decide +kernel
theorem d_Bench_worked_169 : decode M_Bench_worked.2.1 169 = .ok (.ifCond .gt 7, 3) := by decide +kernel
theorem d_Bench_worked_172 : decode M_Bench_worked.2.1 172 = .ok (.lconst 1, 1) := by decide +kernel
theorem d_Bench_worked_173 : decode M_Bench_worked.2.1 173 = .ok (.goto 4, 3) := by decide +kernel
theorem d_Bench_worked_176 : decode M_Bench_worked.2.1 176 = .ok (.lconst 0, 1) := by decide +kernel
theorem d_Bench_worked_177 : decode M_Bench_worked.2.1 177 = .ok (.lreturn, 1) := by decide +kernel
theorem d_Bench_worked_178 : decode M_Bench_worked.2.1 178 = .ok (.lload_n 1, 1) := by decide +kernel
theorem d_Bench_worked_179 : decode M_Bench_worked.2.1 179 = .ok (.lload_n 3, 1) := by decide +kernel
theorem d_Bench_worked_180 : decode M_Bench_worked.2.1 180 = .ok (.lcmp, 1) := by decide +kernel
theorem d_Bench_worked_181 : decode M_Bench_worked.2.1 181 = .ok (.ifCond .le 7, 3) := by decide +kernel
theorem d_Bench_worked_184 : decode M_Bench_worked.2.1 184 = .ok (.lconst 1, 1) := by decide +kernel
theorem d_Bench_worked_185 : decode M_Bench_worked.2.1 185 = .ok (.goto 4, 3) := by decide +kernel
theorem d_Bench_worked_188 : decode M_Bench_worked.2.1 188 = .ok (.lconst 0, 1) := by decide +kernel
theorem d_Bench_worked_189 : decode M_Bench_worked.2.1 189 = .ok (.lreturn, 1) := by decide +kernel
theorem d_Bench_worked_190 : decode M_Bench_worked.2.1 190 = .ok (.lload_n 1, 1) := by decide +kernel
theorem d_Bench_worked_191 : decode M_Bench_worked.2.1 191 = .ok (.lload_n 3, 1) := by decide +kernel
theorem d_Bench_worked_192 : decode M_Bench_worked.2.1 192 = .ok (.lcmp, 1) := by decide +kernel
theorem d_Bench_worked_193 : decode M_Bench_worked.2.1 193 = .ok (.ifCond .lt 7, 3) := by decide +kernel
theorem d_Bench_worked_196 : decode M_Bench_worked.2.1 196 = .ok (.lconst 1, 1) := by decide +kernel
theorem d_Bench_worked_197 : decode M_Bench_worked.2.1 197 = .ok (.goto 4, 3) := by decide +kernel
theorem d_Bench_worked_200 : decode M_Bench_worked.2.1 200 = .ok (.lconst 0, 1) := by decide +kernel
theorem d_Bench_worked_201 : decode M_Bench_worked.2.1 201 = .ok (.lreturn, 1) := by decide +kernel
theorem d_Bench_worked_202 : decode M_Bench_worked.2.1 202 = .ok (.lload_n 1, 1) := by decide +kernel
theorem d_Bench_worked_203 : decode M_Bench_worked.2.1 203 = .ok (.lload_n 3, 1) := by decide +kernel
theorem d_Bench_worked_204 : decode M_Bench_worked.2.1 204 = .ok (.lcmp, 1) := by decide +kernel
theorem d_Bench_worked_205 : decode M_Bench_worked.2.1 205 = .ok (.ifCond .ne 7, 3) := by decide +kernel
theorem d_Bench_worked_208 : decode M_Bench_worked.2.1 208 = .ok (.lconst 1, 1) := by decide +kernel
theorem d_Bench_worked_209 : decode M_Bench_worked.2.1 209 = .ok (.goto 4, 3) := by decide +kernel
theorem d_Bench_worked_212 : decode M_Bench_worked.2.1 212 = .ok (.lconst 0, 1) := by decide +kernel
theorem d_Bench_worked_213 : decode M_Bench_worked.2.1 213 = .ok (.lreturn, 1) := by decide +kernel
theorem d_Bench_worked_214 : decode M_Bench_worked.2.1 214 = .ok (.lload_n 1, 1) := by decide +kernel
theorem d_Bench_worked_215 : decode M_Bench_worked.2.1 215 = .ok (.lload_n 3, 1) := by decide +kernel
theorem d_Bench_worked_216 : decode M_Bench_worked.2.1 216 = .ok (.lcmp, 1) := by decide +kernel
theorem d_Bench_worked_217 : decode M_Bench_worked.2.1 217 = .ok (.ifCond .eq 7, 3) := by decide +kernel
theorem d_Bench_worked_220 : decode M_Bench_worked.2.1 220 = .ok (.lconst 1, 1) := by decide +kernel
theorem d_Bench_worked_221 : decode M_Bench_worked.2.1 221 = .ok (.goto 4, 3) := by decide +kernel
theorem d_Bench_worked_224 : decode M_Bench_worked.2.1 224 = .ok (.lconst 0, 1) := by decide +kernel
theorem d_Bench_worked_225 : decode M_Bench_worked.2.1 225 = .ok (.lreturn, 1) := by decide +kernel
theorem d_Bench_worked_226 : decode M_Bench_worked.2.1 226 = .ok (.lconst 0, 1) := by decide +kernel
theorem d_Bench_worked_227 : decode M_Bench_worked.2.1 227 = .ok (.lreturn, 1) := by decide +kernel
theorem d_Bench_held_0 : decode M_Bench_held.2.1 0 = .ok (.lload_n 0, 1) := by decide +kernel
theorem d_Bench_held_1 : decode M_Bench_held.2.1 1 = .ok (.ldc2_w 51, 3) := by decide +kernel
theorem d_Bench_held_4 : decode M_Bench_held.2.1 4 = .ok (.lcmp, 1) := by decide +kernel
theorem d_Bench_held_5 : decode M_Bench_held.2.1 5 = .ok (.ifCond .le 6, 3) := by decide +kernel
theorem d_Bench_held_8 : decode M_Bench_held.2.1 8 = .ok (.ldc 53, 2) := by decide +kernel
theorem d_Bench_held_10 : decode M_Bench_held.2.1 10 = .ok (.ireturn, 1) := by decide +kernel
theorem d_Bench_held_11 : decode M_Bench_held.2.1 11 = .ok (.lload_n 0, 1) := by decide +kernel
theorem d_Bench_held_12 : decode M_Bench_held.2.1 12 = .ok (.ldc2_w 54, 3) := by decide +kernel
theorem d_Bench_held_15 : decode M_Bench_held.2.1 15 = .ok (.lcmp, 1) := by decide +kernel
theorem d_Bench_held_16 : decode M_Bench_held.2.1 16 = .ok (.ifCond .ge 8, 3) := by decide +kernel
theorem d_Bench_held_19 : decode M_Bench_held.2.1 19 = .ok (.ldc 56, 2) := by decide +kernel
theorem d_Bench_held_21 : decode M_Bench_held.2.1 21 = .ok (.goto 5, 3) := by decide +kernel
theorem d_Bench_held_24 : decode M_Bench_held.2.1 24 = .ok (.lload_n 0, 1) := by decide +kernel
theorem d_Bench_held_25 : decode M_Bench_held.2.1 25 = .ok (.l2i, 1) := by decide +kernel
theorem d_Bench_held_26 : decode M_Bench_held.2.1 26 = .ok (.ireturn, 1) := by decide +kernel
theorem d_Bench_run_0 : decode M_Bench_run.2.1 0 = .ok (.aload_n 1, 1) := by decide +kernel
theorem d_Bench_run_1 : decode M_Bench_run.2.1 1 = .ok (.getfield 22, 3) := by decide +kernel
theorem d_Bench_run_4 : decode M_Bench_run.2.1 4 = .ok (.astore_n 3, 1) := by decide +kernel
theorem d_Bench_run_5 : decode M_Bench_run.2.1 5 = .ok (.aload_n 3, 1) := by decide +kernel
theorem d_Bench_run_6 : decode M_Bench_run.2.1 6 = .ok (.arraylength, 1) := by decide +kernel
theorem d_Bench_run_7 : decode M_Bench_run.2.1 7 = .ok (.aload_n 1, 1) := by decide +kernel
theorem d_Bench_run_8 : decode M_Bench_run.2.1 8 = .ok (.iload_n 2, 1) := by decide +kernel
theorem d_Bench_run_9 : decode M_Bench_run.2.1 9 = .ok (.invokevirtual 27, 3) := by decide +kernel
theorem d_Bench_run_12 : decode M_Bench_run.2.1 12 = .ok (.invokestatic 31, 3) := by decide +kernel
theorem d_Bench_run_15 : decode M_Bench_run.2.1 15 = .ok (.istore 4, 2) := by decide +kernel
theorem d_Bench_run_17 : decode M_Bench_run.2.1 17 = .ok (.iconst 0, 1) := by decide +kernel
theorem d_Bench_run_18 : decode M_Bench_run.2.1 18 = .ok (.istore 5, 2) := by decide +kernel
theorem d_Bench_run_20 : decode M_Bench_run.2.1 20 = .ok (.iconst 0, 1) := by decide +kernel
theorem d_Bench_run_21 : decode M_Bench_run.2.1 21 = .ok (.aload_n 1, 1) := by decide +kernel
theorem d_Bench_run_22 : decode M_Bench_run.2.1 22 = .ok (.iload_n 2, 1) := by decide +kernel
theorem d_Bench_run_23 : decode M_Bench_run.2.1 23 = .ok (.invokevirtual 37, 3) := by decide +kernel
theorem d_Bench_run_26 : decode M_Bench_run.2.1 26 = .ok (.invokestatic 40, 3) := by decide +kernel
theorem d_Bench_run_29 : decode M_Bench_run.2.1 29 = .ok (.istore 6, 2) := by decide +kernel
theorem d_Bench_run_31 : decode M_Bench_run.2.1 31 = .ok (.iload 6, 2) := by decide +kernel
theorem d_Bench_run_33 : decode M_Bench_run.2.1 33 = .ok (.iload 4, 2) := by decide +kernel
theorem d_Bench_run_35 : decode M_Bench_run.2.1 35 = .ok (.if_icmp .ge 196, 3) := by decide +kernel
theorem d_Bench_run_38 : decode M_Bench_run.2.1 38 = .ok (.iconst (-1), 1) := by decide +kernel
theorem d_Bench_run_39 : decode M_Bench_run.2.1 39 = .ok (.aload_n 3, 1) := by decide +kernel
theorem d_Bench_run_40 : decode M_Bench_run.2.1 40 = .ok (.iload 6, 2) := by decide +kernel
theorem d_Bench_run_42 : decode M_Bench_run.2.1 42 = .ok (.iaload, 1) := by decide +kernel
theorem d_Bench_run_43 : decode M_Bench_run.2.1 43 = .ok (.isub, 1) := by decide +kernel
theorem d_Bench_run_44 : decode M_Bench_run.2.1 44 = .ok (.istore 7, 2) := by decide +kernel
theorem d_Bench_run_46 : decode M_Bench_run.2.1 46 = .ok (.iload 7, 2) := by decide +kernel
theorem d_Bench_run_48 : decode M_Bench_run.2.1 48 = .ok (.ifCond .lt 17, 3) := by decide +kernel
theorem d_Bench_run_51 : decode M_Bench_run.2.1 51 = .ok (.iload 7, 2) := by decide +kernel
theorem d_Bench_run_53 : decode M_Bench_run.2.1 53 = .ok (.bipush 9, 2) := by decide +kernel
theorem d_Bench_run_55 : decode M_Bench_run.2.1 55 = .ok (.if_icmp .lt 57, 3) := by decide +kernel
theorem d_Bench_run_58 : decode M_Bench_run.2.1 58 = .ok (.iload 7, 2) := by decide +kernel
theorem d_Bench_run_60 : decode M_Bench_run.2.1 60 = .ok (.bipush 22, 2) := by decide +kernel
theorem d_Bench_run_62 : decode M_Bench_run.2.1 62 = .ok (.if_icmp .ge 50, 3) := by decide +kernel
theorem d_Bench_run_65 : decode M_Bench_run.2.1 65 = .ok (.iload 5, 2) := by decide +kernel
theorem d_Bench_run_67 : decode M_Bench_run.2.1 67 = .ok (.aload_n 0, 1) := by decide +kernel
theorem d_Bench_run_68 : decode M_Bench_run.2.1 68 = .ok (.getfield 9, 3) := by decide +kernel
theorem d_Bench_run_71 : decode M_Bench_run.2.1 71 = .ok (.arraylength, 1) := by decide +kernel
theorem d_Bench_run_72 : decode M_Bench_run.2.1 72 = .ok (.if_icmp .lt 5, 3) := by decide +kernel
theorem d_Bench_run_75 : decode M_Bench_run.2.1 75 = .ok (.iconst 0, 1) := by decide +kernel
theorem d_Bench_run_76 : decode M_Bench_run.2.1 76 = .ok (.ireturn, 1) := by decide +kernel
theorem d_Bench_run_77 : decode M_Bench_run.2.1 77 = .ok (.aload_n 0, 1) := by decide +kernel
theorem d_Bench_run_78 : decode M_Bench_run.2.1 78 = .ok (.getfield 9, 3) := by decide +kernel
theorem d_Bench_run_81 : decode M_Bench_run.2.1 81 = .ok (.iload 5, 2) := by decide +kernel
theorem d_Bench_run_83 : decode M_Bench_run.2.1 83 = .ok (.iload 7, 2) := by decide +kernel
theorem d_Bench_run_85 : decode M_Bench_run.2.1 85 = .ok (.ifCond .ge 10, 3) := by decide +kernel
theorem d_Bench_run_88 : decode M_Bench_run.2.1 88 = .ok (.aload_n 3, 1) := by decide +kernel
theorem d_Bench_run_89 : decode M_Bench_run.2.1 89 = .ok (.iload 6, 2) := by decide +kernel
theorem d_Bench_run_91 : decode M_Bench_run.2.1 91 = .ok (.iaload, 1) := by decide +kernel
theorem d_Bench_run_92 : decode M_Bench_run.2.1 92 = .ok (.goto 13, 3) := by decide +kernel
theorem d_Bench_run_95 : decode M_Bench_run.2.1 95 = .ok (.aload_n 0, 1) := by decide +kernel
theorem d_Bench_run_96 : decode M_Bench_run.2.1 96 = .ok (.getfield 15, 3) := by decide +kernel
theorem d_Bench_run_99 : decode M_Bench_run.2.1 99 = .ok (.iload 7, 2) := by decide +kernel
theorem d_Bench_run_101 : decode M_Bench_run.2.1 101 = .ok (.bipush 9, 2) := by decide +kernel
theorem d_Bench_run_103 : decode M_Bench_run.2.1 103 = .ok (.isub, 1) := by decide +kernel
theorem d_Bench_run_104 : decode M_Bench_run.2.1 104 = .ok (.iaload, 1) := by decide +kernel
theorem d_Bench_run_105 : decode M_Bench_run.2.1 105 = .ok (.iastore, 1) := by decide +kernel
theorem d_Bench_run_106 : decode M_Bench_run.2.1 106 = .ok (.iinc 5 1, 3) := by decide +kernel
theorem d_Bench_run_109 : decode M_Bench_run.2.1 109 = .ok (.goto 116, 3) := by decide +kernel
theorem d_Bench_run_112 : decode M_Bench_run.2.1 112 = .ok (.iload 7, 2) := by decide +kernel
theorem d_Bench_run_114 : decode M_Bench_run.2.1 114 = .ok (.bipush 8, 2) := by decide +kernel
theorem d_Bench_run_116 : decode M_Bench_run.2.1 116 = .ok (.if_icmp .eq 10, 3) := by decide +kernel
theorem d_Bench_run_119 : decode M_Bench_run.2.1 119 = .ok (.iload 7, 2) := by decide +kernel
theorem d_Bench_run_121 : decode M_Bench_run.2.1 121 = .ok (.bipush 38, 2) := by decide +kernel
theorem d_Bench_run_123 : decode M_Bench_run.2.1 123 = .ok (.if_icmp .ne 54, 3) := by decide +kernel
theorem d_Bench_run_126 : decode M_Bench_run.2.1 126 = .ok (.iload 5, 2) := by decide +kernel
theorem d_Bench_run_128 : decode M_Bench_run.2.1 128 = .ok (.iconst 1, 1) := by decide +kernel
theorem d_Bench_run_129 : decode M_Bench_run.2.1 129 = .ok (.if_icmp .ge 5, 3) := by decide +kernel
theorem d_Bench_run_132 : decode M_Bench_run.2.1 132 = .ok (.iconst 0, 1) := by decide +kernel
theorem d_Bench_run_133 : decode M_Bench_run.2.1 133 = .ok (.ireturn, 1) := by decide +kernel
theorem d_Bench_run_134 : decode M_Bench_run.2.1 134 = .ok (.aload_n 0, 1) := by decide +kernel
theorem d_Bench_run_135 : decode M_Bench_run.2.1 135 = .ok (.getfield 9, 3) := by decide +kernel
theorem d_Bench_run_138 : decode M_Bench_run.2.1 138 = .ok (.iload 5, 2) := by decide +kernel
theorem d_Bench_run_140 : decode M_Bench_run.2.1 140 = .ok (.iconst 1, 1) := by decide +kernel
theorem d_Bench_run_141 : decode M_Bench_run.2.1 141 = .ok (.isub, 1) := by decide +kernel
theorem d_Bench_run_142 : decode M_Bench_run.2.1 142 = .ok (.iload 7, 2) := by decide +kernel
theorem d_Bench_run_144 : decode M_Bench_run.2.1 144 = .ok (.bipush 8, 2) := by decide +kernel
theorem d_Bench_run_146 : decode M_Bench_run.2.1 146 = .ok (.if_icmp .ne 17, 3) := by decide +kernel
theorem d_Bench_run_149 : decode M_Bench_run.2.1 149 = .ok (.iconst 1, 1) := by decide +kernel
theorem d_Bench_run_150 : decode M_Bench_run.2.1 150 = .ok (.aload_n 0, 1) := by decide +kernel
theorem d_Bench_run_151 : decode M_Bench_run.2.1 151 = .ok (.getfield 9, 3) := by decide +kernel
theorem d_Bench_run_154 : decode M_Bench_run.2.1 154 = .ok (.iload 5, 2) := by decide +kernel
theorem d_Bench_run_156 : decode M_Bench_run.2.1 156 = .ok (.iconst 1, 1) := by decide +kernel
theorem d_Bench_run_157 : decode M_Bench_run.2.1 157 = .ok (.isub, 1) := by decide +kernel
theorem d_Bench_run_158 : decode M_Bench_run.2.1 158 = .ok (.iaload, 1) := by decide +kernel
theorem d_Bench_run_159 : decode M_Bench_run.2.1 159 = .ok (.isub, 1) := by decide +kernel
theorem d_Bench_run_160 : decode M_Bench_run.2.1 160 = .ok (.goto 13, 3) := by decide +kernel
theorem d_Bench_run_163 : decode M_Bench_run.2.1 163 = .ok (.aload_n 0, 1) := by decide +kernel
theorem d_Bench_run_164 : decode M_Bench_run.2.1 164 = .ok (.getfield 9, 3) := by decide +kernel
theorem d_Bench_run_167 : decode M_Bench_run.2.1 167 = .ok (.iload 5, 2) := by decide +kernel
theorem d_Bench_run_169 : decode M_Bench_run.2.1 169 = .ok (.iconst 1, 1) := by decide +kernel
theorem d_Bench_run_170 : decode M_Bench_run.2.1 170 = .ok (.isub, 1) := by decide +kernel
theorem d_Bench_run_171 : decode M_Bench_run.2.1 171 = .ok (.iaload, 1) := by decide +kernel
theorem d_Bench_run_172 : decode M_Bench_run.2.1 172 = .ok (.ineg, 1) := by decide +kernel
theorem d_Bench_run_173 : decode M_Bench_run.2.1 173 = .ok (.iastore, 1) := by decide +kernel
theorem d_Bench_run_174 : decode M_Bench_run.2.1 174 = .ok (.goto 51, 3) := by decide +kernel
theorem d_Bench_run_177 : decode M_Bench_run.2.1 177 = .ok (.iload 5, 2) := by decide +kernel
theorem d_Bench_run_179 : decode M_Bench_run.2.1 179 = .ok (.iconst 2, 1) := by decide +kernel
theorem d_Bench_run_180 : decode M_Bench_run.2.1 180 = .ok (.if_icmp .ge 5, 3) := by decide +kernel
theorem d_Bench_run_183 : decode M_Bench_run.2.1 183 = .ok (.iconst 0, 1) := by decide +kernel
theorem d_Bench_run_184 : decode M_Bench_run.2.1 184 = .ok (.ireturn, 1) := by decide +kernel
theorem d_Bench_run_185 : decode M_Bench_run.2.1 185 = .ok (.aload_n 0, 1) := by decide +kernel
theorem d_Bench_run_186 : decode M_Bench_run.2.1 186 = .ok (.getfield 9, 3) := by decide +kernel
theorem d_Bench_run_189 : decode M_Bench_run.2.1 189 = .ok (.iload 5, 2) := by decide +kernel
theorem d_Bench_run_191 : decode M_Bench_run.2.1 191 = .ok (.iconst 2, 1) := by decide +kernel
theorem d_Bench_run_192 : decode M_Bench_run.2.1 192 = .ok (.isub, 1) := by decide +kernel
theorem d_Bench_run_193 : decode M_Bench_run.2.1 193 = .ok (.iload 7, 2) := by decide +kernel
theorem d_Bench_run_195 : decode M_Bench_run.2.1 195 = .ok (.aload_n 0, 1) := by decide +kernel
theorem d_Bench_run_196 : decode M_Bench_run.2.1 196 = .ok (.getfield 9, 3) := by decide +kernel
theorem d_Bench_run_199 : decode M_Bench_run.2.1 199 = .ok (.iload 5, 2) := by decide +kernel
theorem d_Bench_run_201 : decode M_Bench_run.2.1 201 = .ok (.iconst 2, 1) := by decide +kernel
theorem d_Bench_run_202 : decode M_Bench_run.2.1 202 = .ok (.isub, 1) := by decide +kernel
theorem d_Bench_run_203 : decode M_Bench_run.2.1 203 = .ok (.iaload, 1) := by decide +kernel
theorem d_Bench_run_204 : decode M_Bench_run.2.1 204 = .ok (.i2l, 1) := by decide +kernel
theorem d_Bench_run_205 : decode M_Bench_run.2.1 205 = .ok (.aload_n 0, 1) := by decide +kernel
theorem d_Bench_run_206 : decode M_Bench_run.2.1 206 = .ok (.getfield 9, 3) := by decide +kernel
theorem d_Bench_run_209 : decode M_Bench_run.2.1 209 = .ok (.iload 5, 2) := by decide +kernel
theorem d_Bench_run_211 : decode M_Bench_run.2.1 211 = .ok (.iconst 1, 1) := by decide +kernel
theorem d_Bench_run_212 : decode M_Bench_run.2.1 212 = .ok (.isub, 1) := by decide +kernel
theorem d_Bench_run_213 : decode M_Bench_run.2.1 213 = .ok (.iaload, 1) := by decide +kernel
theorem d_Bench_run_214 : decode M_Bench_run.2.1 214 = .ok (.i2l, 1) := by decide +kernel
theorem d_Bench_run_215 : decode M_Bench_run.2.1 215 = .ok (.invokestatic 43, 3) := by decide +kernel
theorem d_Bench_run_218 : decode M_Bench_run.2.1 218 = .ok (.invokestatic 47, 3) := by decide +kernel
theorem d_Bench_run_221 : decode M_Bench_run.2.1 221 = .ok (.iastore, 1) := by decide +kernel
theorem d_Bench_run_222 : decode M_Bench_run.2.1 222 = .ok (.iinc 5 (-1), 3) := by decide +kernel
theorem d_Bench_run_225 : decode M_Bench_run.2.1 225 = .ok (.iinc 6 1, 3) := by decide +kernel
theorem d_Bench_run_228 : decode M_Bench_run.2.1 228 = .ok (.goto (-197), 3) := by decide +kernel
theorem d_Bench_run_231 : decode M_Bench_run.2.1 231 = .ok (.iload 5, 2) := by decide +kernel
theorem d_Bench_run_233 : decode M_Bench_run.2.1 233 = .ok (.ifCond .le 12, 3) := by decide +kernel
theorem d_Bench_run_236 : decode M_Bench_run.2.1 236 = .ok (.aload_n 0, 1) := by decide +kernel
theorem d_Bench_run_237 : decode M_Bench_run.2.1 237 = .ok (.getfield 9, 3) := by decide +kernel
theorem d_Bench_run_240 : decode M_Bench_run.2.1 240 = .ok (.iconst 0, 1) := by decide +kernel
theorem d_Bench_run_241 : decode M_Bench_run.2.1 241 = .ok (.iaload, 1) := by decide +kernel
theorem d_Bench_run_242 : decode M_Bench_run.2.1 242 = .ok (.goto 4, 3) := by decide +kernel
theorem d_Bench_run_245 : decode M_Bench_run.2.1 245 = .ok (.iconst 0, 1) := by decide +kernel
theorem d_Bench_run_246 : decode M_Bench_run.2.1 246 = .ok (.ireturn, 1) := by decide +kernel
theorem d_Court_comesTo_0 : decode M_Court_comesTo.2.1 0 = .ok (.iload_n 1, 1) := by decide +kernel
theorem d_Court_comesTo_1 : decode M_Court_comesTo.2.1 1 = .ok (.aload_n 0, 1) := by decide +kernel
theorem d_Court_comesTo_2 : decode M_Court_comesTo.2.1 2 = .ok (.getfield 9, 3) := by decide +kernel
theorem d_Court_comesTo_5 : decode M_Court_comesTo.2.1 5 = .ok (.if_icmp .ne 7, 3) := by decide +kernel
theorem d_Court_comesTo_8 : decode M_Court_comesTo.2.1 8 = .ok (.iconst 0, 1) := by decide +kernel
theorem d_Court_comesTo_9 : decode M_Court_comesTo.2.1 9 = .ok (.goto 18, 3) := by decide +kernel
theorem d_Court_comesTo_12 : decode M_Court_comesTo.2.1 12 = .ok (.aload_n 0, 1) := by decide +kernel
theorem d_Court_comesTo_13 : decode M_Court_comesTo.2.1 13 = .ok (.getfield 18, 3) := by decide +kernel
theorem d_Court_comesTo_16 : decode M_Court_comesTo.2.1 16 = .ok (.aload_n 0, 1) := by decide +kernel
theorem d_Court_comesTo_17 : decode M_Court_comesTo.2.1 17 = .ok (.getfield 33, 3) := by decide +kernel
theorem d_Court_comesTo_20 : decode M_Court_comesTo.2.1 20 = .ok (.invokevirtual 122, 3) := by decide +kernel
theorem d_Court_comesTo_23 : decode M_Court_comesTo.2.1 23 = .ok (.iload_n 1, 1) := by decide +kernel
theorem d_Court_comesTo_24 : decode M_Court_comesTo.2.1 24 = .ok (.invokevirtual 128, 3) := by decide +kernel
theorem d_Court_comesTo_27 : decode M_Court_comesTo.2.1 27 = .ok (.ireturn, 1) := by decide +kernel
theorem d_Court_warrantFor_0 : decode M_Court_warrantFor.2.1 0 = .ok (.aload_n 0, 1) := by decide +kernel
theorem d_Court_warrantFor_1 : decode M_Court_warrantFor.2.1 1 = .ok (.getfield 18, 3) := by decide +kernel
theorem d_Court_warrantFor_4 : decode M_Court_warrantFor.2.1 4 = .ok (.bipush 9, 2) := by decide +kernel
theorem d_Court_warrantFor_6 : decode M_Court_warrantFor.2.1 6 = .ok (.iload_n 1, 1) := by decide +kernel
theorem d_Court_warrantFor_7 : decode M_Court_warrantFor.2.1 7 = .ok (.invokevirtual 60, 3) := by decide +kernel
theorem d_Court_warrantFor_10 : decode M_Court_warrantFor.2.1 10 = .ok (.aload_n 0, 1) := by decide +kernel
theorem d_Court_warrantFor_11 : decode M_Court_warrantFor.2.1 11 = .ok (.getfield 18, 3) := by decide +kernel
theorem d_Court_warrantFor_14 : decode M_Court_warrantFor.2.1 14 = .ok (.bipush 10, 2) := by decide +kernel
theorem d_Court_warrantFor_16 : decode M_Court_warrantFor.2.1 16 = .ok (.iload_n 2, 1) := by decide +kernel
theorem d_Court_warrantFor_17 : decode M_Court_warrantFor.2.1 17 = .ok (.invokevirtual 60, 3) := by decide +kernel
theorem d_Court_warrantFor_20 : decode M_Court_warrantFor.2.1 20 = .ok (.aload_n 0, 1) := by decide +kernel
theorem d_Court_warrantFor_21 : decode M_Court_warrantFor.2.1 21 = .ok (.getfield 18, 3) := by decide +kernel
theorem d_Court_warrantFor_24 : decode M_Court_warrantFor.2.1 24 = .ok (.bipush 11, 2) := by decide +kernel
theorem d_Court_warrantFor_26 : decode M_Court_warrantFor.2.1 26 = .ok (.aload_n 0, 1) := by decide +kernel
theorem d_Court_warrantFor_27 : decode M_Court_warrantFor.2.1 27 = .ok (.getfield 29, 3) := by decide +kernel
theorem d_Court_warrantFor_30 : decode M_Court_warrantFor.2.1 30 = .ok (.iload_n 1, 1) := by decide +kernel
theorem d_Court_warrantFor_31 : decode M_Court_warrantFor.2.1 31 = .ok (.iload_n 2, 1) := by decide +kernel
theorem d_Court_warrantFor_32 : decode M_Court_warrantFor.2.1 32 = .ok (.invokevirtual 110, 3) := by decide +kernel
theorem d_Court_warrantFor_35 : decode M_Court_warrantFor.2.1 35 = .ok (.invokevirtual 60, 3) := by decide +kernel
theorem d_Court_warrantFor_38 : decode M_Court_warrantFor.2.1 38 = .ok (.aload_n 0, 1) := by decide +kernel
theorem d_Court_warrantFor_39 : decode M_Court_warrantFor.2.1 39 = .ok (.getfield 18, 3) := by decide +kernel
theorem d_Court_warrantFor_42 : decode M_Court_warrantFor.2.1 42 = .ok (.bipush 12, 2) := by decide +kernel
theorem d_Court_warrantFor_44 : decode M_Court_warrantFor.2.1 44 = .ok (.aload_n 0, 1) := by decide +kernel
theorem d_Court_warrantFor_45 : decode M_Court_warrantFor.2.1 45 = .ok (.getfield 29, 3) := by decide +kernel
theorem d_Court_warrantFor_48 : decode M_Court_warrantFor.2.1 48 = .ok (.iload_n 1, 1) := by decide +kernel
theorem d_Court_warrantFor_49 : decode M_Court_warrantFor.2.1 49 = .ok (.invokevirtual 113, 3) := by decide +kernel
theorem d_Court_warrantFor_52 : decode M_Court_warrantFor.2.1 52 = .ok (.invokevirtual 60, 3) := by decide +kernel
theorem d_Court_warrantFor_55 : decode M_Court_warrantFor.2.1 55 = .ok (.aload_n 0, 1) := by decide +kernel
theorem d_Court_warrantFor_56 : decode M_Court_warrantFor.2.1 56 = .ok (.getfield 18, 3) := by decide +kernel
theorem d_Court_warrantFor_59 : decode M_Court_warrantFor.2.1 59 = .ok (.bipush 13, 2) := by decide +kernel
theorem d_Court_warrantFor_61 : decode M_Court_warrantFor.2.1 61 = .ok (.aload_n 0, 1) := by decide +kernel
theorem d_Court_warrantFor_62 : decode M_Court_warrantFor.2.1 62 = .ok (.getfield 29, 3) := by decide +kernel
theorem d_Court_warrantFor_65 : decode M_Court_warrantFor.2.1 65 = .ok (.iload_n 1, 1) := by decide +kernel
theorem d_Court_warrantFor_66 : decode M_Court_warrantFor.2.1 66 = .ok (.invokevirtual 47, 3) := by decide +kernel
theorem d_Court_warrantFor_69 : decode M_Court_warrantFor.2.1 69 = .ok (.invokevirtual 60, 3) := by decide +kernel
theorem d_Court_warrantFor_72 : decode M_Court_warrantFor.2.1 72 = .ok (.aload_n 0, 1) := by decide +kernel
theorem d_Court_warrantFor_73 : decode M_Court_warrantFor.2.1 73 = .ok (.iconst 0, 1) := by decide +kernel
theorem d_Court_warrantFor_74 : decode M_Court_warrantFor.2.1 74 = .ok (.invokevirtual 77, 3) := by decide +kernel
theorem d_Court_warrantFor_77 : decode M_Court_warrantFor.2.1 77 = .ok (.ireturn, 1) := by decide +kernel
theorem d_Ww_warrant_0 : decode M_Ww_warrant.2.1 0 = .ok (.iload_n 1, 1) := by decide +kernel
theorem d_Ww_warrant_1 : decode M_Ww_warrant.2.1 1 = .ok (.iload_n 2, 1) := by decide +kernel
theorem d_Ww_warrant_2 : decode M_Ww_warrant.2.1 2 = .ok (.invokestatic 138, 3) := by decide +kernel
theorem d_Ww_warrant_5 : decode M_Ww_warrant.2.1 5 = .ok (.ifCond .eq 17, 3) := by decide +kernel
theorem d_Ww_warrant_8 : decode M_Ww_warrant.2.1 8 = .ok (.aload_n 0, 1) := by decide +kernel
theorem d_Ww_warrant_9 : decode M_Ww_warrant.2.1 9 = .ok (.getfield 31, 3) := by decide +kernel
theorem d_Ww_warrant_12 : decode M_Ww_warrant.2.1 12 = .ok (.invokevirtual 141, 3) := by decide +kernel
theorem d_Ww_warrant_15 : decode M_Ww_warrant.2.1 15 = .ok (.iconst 0, 1) := by decide +kernel
theorem d_Ww_warrant_16 : decode M_Ww_warrant.2.1 16 = .ok (.invokevirtual 144, 3) := by decide +kernel
theorem d_Ww_warrant_19 : decode M_Ww_warrant.2.1 19 = .ok (.ifCond .ne 5, 3) := by decide +kernel
theorem d_Ww_warrant_22 : decode M_Ww_warrant.2.1 22 = .ok (.iconst (-1), 1) := by decide +kernel
theorem d_Ww_warrant_23 : decode M_Ww_warrant.2.1 23 = .ok (.ireturn, 1) := by decide +kernel
theorem d_Ww_warrant_24 : decode M_Ww_warrant.2.1 24 = .ok (.iconst 0, 1) := by decide +kernel
theorem d_Ww_warrant_25 : decode M_Ww_warrant.2.1 25 = .ok (.istore_n 3, 1) := by decide +kernel
theorem d_Ww_warrant_26 : decode M_Ww_warrant.2.1 26 = .ok (.iload_n 1, 1) := by decide +kernel
theorem d_Ww_warrant_27 : decode M_Ww_warrant.2.1 27 = .ok (.istore 4, 2) := by decide +kernel
theorem d_Ww_warrant_29 : decode M_Ww_warrant.2.1 29 = .ok (.iload 4, 2) := by decide +kernel
theorem d_Ww_warrant_31 : decode M_Ww_warrant.2.1 31 = .ok (.iload_n 2, 1) := by decide +kernel
theorem d_Ww_warrant_32 : decode M_Ww_warrant.2.1 32 = .ok (.if_icmp .gt 52, 3) := by decide +kernel
theorem d_Ww_warrant_35 : decode M_Ww_warrant.2.1 35 = .ok (.iconst 0, 1) := by decide +kernel
theorem d_Ww_warrant_36 : decode M_Ww_warrant.2.1 36 = .ok (.istore 5, 2) := by decide +kernel
theorem d_Ww_warrant_38 : decode M_Ww_warrant.2.1 38 = .ok (.iload 5, 2) := by decide +kernel
theorem d_Ww_warrant_40 : decode M_Ww_warrant.2.1 40 = .ok (.iconst 4, 1) := by decide +kernel
theorem d_Ww_warrant_41 : decode M_Ww_warrant.2.1 41 = .ok (.if_icmp .ge 37, 3) := by decide +kernel
theorem d_Ww_warrant_44 : decode M_Ww_warrant.2.1 44 = .ok (.aload_n 0, 1) := by decide +kernel
theorem d_Ww_warrant_45 : decode M_Ww_warrant.2.1 45 = .ok (.getfield 10, 3) := by decide +kernel
theorem d_Ww_warrant_48 : decode M_Ww_warrant.2.1 48 = .ok (.iload 4, 2) := by decide +kernel
theorem d_Ww_warrant_50 : decode M_Ww_warrant.2.1 50 = .ok (.iload 5, 2) := by decide +kernel
theorem d_Ww_warrant_52 : decode M_Ww_warrant.2.1 52 = .ok (.aload_n 0, 1) := by decide +kernel
theorem d_Ww_warrant_53 : decode M_Ww_warrant.2.1 53 = .ok (.getfield 53, 3) := by decide +kernel
theorem d_Ww_warrant_56 : decode M_Ww_warrant.2.1 56 = .ok (.iload 4, 2) := by decide +kernel
theorem d_Ww_warrant_58 : decode M_Ww_warrant.2.1 58 = .ok (.iload 5, 2) := by decide +kernel
theorem d_Ww_warrant_60 : decode M_Ww_warrant.2.1 60 = .ok (.invokevirtual 150, 3) := by decide +kernel
theorem d_Ww_warrant_63 : decode M_Ww_warrant.2.1 63 = .ok (.invokevirtual 96, 3) := by decide +kernel
theorem d_Ww_warrant_66 : decode M_Ww_warrant.2.1 66 = .ok (.ifCond .eq 6, 3) := by decide +kernel
theorem d_Ww_warrant_69 : decode M_Ww_warrant.2.1 69 = .ok (.iinc 3 1, 3) := by decide +kernel
theorem d_Ww_warrant_72 : decode M_Ww_warrant.2.1 72 = .ok (.iinc 5 1, 3) := by decide +kernel
theorem d_Ww_warrant_75 : decode M_Ww_warrant.2.1 75 = .ok (.goto (-37), 3) := by decide +kernel
theorem d_Ww_warrant_78 : decode M_Ww_warrant.2.1 78 = .ok (.iinc 4 1, 3) := by decide +kernel
theorem d_Ww_warrant_81 : decode M_Ww_warrant.2.1 81 = .ok (.goto (-52), 3) := by decide +kernel
theorem d_Ww_warrant_84 : decode M_Ww_warrant.2.1 84 = .ok (.iload_n 3, 1) := by decide +kernel
theorem d_Ww_warrant_85 : decode M_Ww_warrant.2.1 85 = .ok (.ireturn, 1) := by decide +kernel
-- Reader_readSum
def b_Reader_readSum_128 (r_Reader_readOne : Int32 → xV → Option (Int32 × xV)) (k9 : Int32 → Int32 → Int32 → Int32 → xV → Option (Int32 × xV)) (v1 : Int32) (v2 : Int32) (v4 : Int32) (s0 : Int32) (V : xV) : Option (Int32 × xV) := (if ¬ s0 = 36 then k9 v1 v2 s0 (v4 + 1) (x2 V 46 5 ((V 46 5) + 1)) else some (1, V))
theorem tb_Reader_readSum_128 (e : Nat) (he : 4 ≤ e) (r_Reader_readOne : Int32 → xV → Option (Int32 × xV)) (hr_Reader_readOne : ∀ (x0 : Int32) (V : xV) (L : xL) (p : Int32 × xV), r_Reader_readOne x0 V = some p → xRuns e M_Reader_readOne [.ref 46, .int x0] (SH, V, L) (fun o h' => o = some (.int p.1) ∧ h' = (SH, p.2, L))) {L : xL} (k9 : Int32 → Int32 → Int32 → Int32 → xV → Option (Int32 × xV)) (res : Int32 × xV) (hk9 : ∀ (v1 : Int32) (v2 : Int32) (v3 : Int32) (v4 : Int32) (V : xV), k9 v1 v2 v3 v4 V = some res → X M_Reader_readSum (xRm (e + 1) M_Reader_readSum) (xZ M_Reader_readSum (fun o h' => o = some (.int res.1) ∧ h' = (SH, res.2, L))) SH V L 0 0 9 [(0, .ref 46), (1, .int v1), (2, .int v2), (3, .int v3), (4, .int v4)] []) (v1 : Int32) (v2 : Int32) (v4 : Int32) (s0 : Int32) (V : xV) (h : b_Reader_readSum_128 r_Reader_readOne k9 v1 v2 v4 s0 V = some res) : X M_Reader_readSum (xRm (e + 1) M_Reader_readSum) (xZ M_Reader_readSum (fun o h' => o = some (.int res.1) ∧ h' = (SH, res.2, L))) SH V L 0 0 128 [(0, .ref 46), (1, .int v1), (2, .int v2), (4, .int v4)] [.int s0] := by
  unfold b_Reader_readSum_128 at h
  refine x_istore_n [(3, .int s0), (0, .ref 46), (1, .int v1), (2, .int v2), (4, .int v4)] d_Reader_readSum_128 rfl (Nat.le_of_ble_eq_true rfl) rfl ?_
  refine x_iload_n 0 d_Reader_readSum_129 rfl rfl ?_
  refine x_bipush 36 d_Reader_readSum_130 (by decide) ?_
  refine x_icmp_ne 137 d_Reader_readSum_132 (by decide) (fun c35 => ?_) (fun c35 => ?_)
  · replace h := xpos c35 h
    refine x_aload_n 1 d_Reader_readSum_137 rfl rfl ?_
    refine x_dup d_Reader_readSum_138 rfl ?_
    refine x_getI f_Reader_38 sh_46 rfl d_Reader_readSum_139 ?_
    refine x_iconst 1 d_Reader_readSum_142 (by decide) ?_
    refine x_iadd d_Reader_readSum_143 ?_
    refine x_putI f_Reader_38 sh_46 rfl rfl rfl d_Reader_readSum_144 ?_
    refine x_iinc 4 1 [(4, .int (v4 + 1)), (3, .int s0), (0, .ref 46), (1, .int v1), (2, .int v2)] d_Reader_readSum_147 rfl (by decide) (Nat.le_of_ble_eq_true rfl) rfl ?_
    refine x_goto 9 d_Reader_readSum_150 (by decide) ?_
    refine x_pick [2, 3, 4, 1, 0] rfl ?_
    exact hk9 v1 v2 s0 (v4 + 1) (x2 V 46 5 ((V 46 5) + 1)) h
  · replace h := xneg c35 h
    refine x_iconst 1 d_Reader_readSum_135 (by decide) ?_
    obtain rfl := Option.some.inj h
    exact x_zreturn rfl rfl d_Reader_readSum_136 (Nat.le_refl _) (Nat.le_refl _) ⟨rfl, rfl⟩
def b_Reader_readSum_95 (r_Reader_readOne : Int32 → xV → Option (Int32 × xV)) (k9 : Int32 → Int32 → Int32 → Int32 → xV → Option (Int32 × xV)) (v1 : Int32) (v2 : Int32) (v3 : Int32) (v4 : Int32) (s0 : Int32) (V : xV) : Option (Int32 × xV) := (Option.bind (f_Reader_emitIf s0 ((-1) - v3) V) fun p23 => (Option.bind (f_Reader_kind p23) fun p25 => (if p25 = 28 then (Option.bind (f_Reader_kind p23) fun p28 => b_Reader_readSum_128 r_Reader_readOne k9 v1 v2 v4 p28 p23) else (Option.bind (f_Reader_kind p23) fun p30 => (if ¬ p30 = 29 then b_Reader_readSum_128 r_Reader_readOne k9 v1 v2 v4 36 p23 else (Option.bind (f_Reader_kind p23) fun p33 => b_Reader_readSum_128 r_Reader_readOne k9 v1 v2 v4 p33 p23))))))
theorem tb_Reader_readSum_95 (e : Nat) (he : 4 ≤ e) (r_Reader_readOne : Int32 → xV → Option (Int32 × xV)) (hr_Reader_readOne : ∀ (x0 : Int32) (V : xV) (L : xL) (p : Int32 × xV), r_Reader_readOne x0 V = some p → xRuns e M_Reader_readOne [.ref 46, .int x0] (SH, V, L) (fun o h' => o = some (.int p.1) ∧ h' = (SH, p.2, L))) {L : xL} (k9 : Int32 → Int32 → Int32 → Int32 → xV → Option (Int32 × xV)) (res : Int32 × xV) (hk9 : ∀ (v1 : Int32) (v2 : Int32) (v3 : Int32) (v4 : Int32) (V : xV), k9 v1 v2 v3 v4 V = some res → X M_Reader_readSum (xRm (e + 1) M_Reader_readSum) (xZ M_Reader_readSum (fun o h' => o = some (.int res.1) ∧ h' = (SH, res.2, L))) SH V L 0 0 9 [(0, .ref 46), (1, .int v1), (2, .int v2), (3, .int v3), (4, .int v4)] []) (v1 : Int32) (v2 : Int32) (v3 : Int32) (v4 : Int32) (s0 : Int32) (V : xV) (h : b_Reader_readSum_95 r_Reader_readOne k9 v1 v2 v3 v4 s0 V = some res) : X M_Reader_readSum (xRm (e + 1) M_Reader_readSum) (xZ M_Reader_readSum (fun o h' => o = some (.int res.1) ∧ h' = (SH, res.2, L))) SH V L 0 0 95 [(0, .ref 46), (1, .int v1), (2, .int v2), (3, .int v3), (4, .int v4)] [.int s0, .ref 46] := by
  unfold b_Reader_readSum_95 at h
  refine x_iconst (-1) d_Reader_readSum_95 (by decide) ?_
  refine x_iload_n 3 d_Reader_readSum_96 rfl rfl ?_
  refine x_isub d_Reader_readSum_97 ?_
  obtain ⟨p23, e24, h⟩ := xbind h
  refine x_callV0v e_Reader_96 sh_46 rfl (t_Reader_emitIf s0 ((-1) - v3) V L _ e24) rfl rfl rfl (Nat.le_of_ble_eq_true rfl) (xfit_of (by omega) (Nat.le_of_ble_eq_true rfl)) (Nat.zero_le _) (Nat.zero_le _) d_Reader_readSum_98 ?_
  refine x_aload_n 0 d_Reader_readSum_101 rfl rfl ?_
  obtain ⟨p25, e26, h⟩ := xbind h
  refine x_callV0 e_Reader_48 sh_46 rfl (t_Reader_kind p23 L _ e26) rfl rfl rfl (Nat.le_of_ble_eq_true rfl) (xfit_of (by omega) (Nat.le_of_ble_eq_true rfl)) (Nat.zero_le _) (Nat.zero_le _) d_Reader_readSum_102 ?_
  refine x_bipush 28 d_Reader_readSum_105 (by decide) ?_
  refine x_icmp_eq 119 d_Reader_readSum_107 (by decide) (fun c27 => ?_) (fun c27 => ?_)
  · replace h := xpos c27 h
    refine x_aload_n 0 d_Reader_readSum_119 rfl rfl ?_
    obtain ⟨p28, e29, h⟩ := xbind h
    refine x_callV0 e_Reader_48 sh_46 rfl (t_Reader_kind p23 L _ e29) rfl rfl rfl (Nat.le_of_ble_eq_true rfl) (xfit_of (by omega) (Nat.le_of_ble_eq_true rfl)) (Nat.zero_le _) (Nat.zero_le _) d_Reader_readSum_120 ?_
    refine x_goto 128 d_Reader_readSum_123 (by decide) ?_
    refine x_pick [0, 1, 2, 4] rfl ?_
    exact tb_Reader_readSum_128 e he r_Reader_readOne hr_Reader_readOne (L := L) k9 res hk9 v1 v2 v4 p28 p23 h
  · replace h := xneg c27 h
    refine x_aload_n 0 d_Reader_readSum_110 rfl rfl ?_
    obtain ⟨p30, e31, h⟩ := xbind h
    refine x_callV0 e_Reader_48 sh_46 rfl (t_Reader_kind p23 L _ e31) rfl rfl rfl (Nat.le_of_ble_eq_true rfl) (xfit_of (by omega) (Nat.le_of_ble_eq_true rfl)) (Nat.zero_le _) (Nat.zero_le _) d_Reader_readSum_111 ?_
    refine x_bipush 29 d_Reader_readSum_114 (by decide) ?_
    refine x_icmp_ne 126 d_Reader_readSum_116 (by decide) (fun c32 => ?_) (fun c32 => ?_)
    · replace h := xpos c32 h
      refine x_bipush 36 d_Reader_readSum_126 (by decide) ?_
      refine x_pick [0, 1, 2, 4] rfl ?_
      exact tb_Reader_readSum_128 e he r_Reader_readOne hr_Reader_readOne (L := L) k9 res hk9 v1 v2 v4 36 p23 h
    · replace h := xneg c32 h
      refine x_aload_n 0 d_Reader_readSum_119 rfl rfl ?_
      obtain ⟨p33, e34, h⟩ := xbind h
      refine x_callV0 e_Reader_48 sh_46 rfl (t_Reader_kind p23 L _ e34) rfl rfl rfl (Nat.le_of_ble_eq_true rfl) (xfit_of (by omega) (Nat.le_of_ble_eq_true rfl)) (Nat.zero_le _) (Nat.zero_le _) d_Reader_readSum_120 ?_
      refine x_goto 128 d_Reader_readSum_123 (by decide) ?_
      refine x_pick [0, 1, 2, 4] rfl ?_
      exact tb_Reader_readSum_128 e he r_Reader_readOne hr_Reader_readOne (L := L) k9 res hk9 v1 v2 v4 p33 p23 h
def b_Reader_readSum_76 (r_Reader_readOne : Int32 → xV → Option (Int32 × xV)) (k9 : Int32 → Int32 → Int32 → Int32 → xV → Option (Int32 × xV)) (v1 : Int32) (v3 : Int32) (v4 : Int32) (s0 : Int32) (V : xV) : Option (Int32 × xV) := (if ¬ s0 = 36 then k9 v1 s0 v3 (v4 + 1) (x2 V 46 5 ((V 46 5) + 1)) else (if v3 = 36 then b_Reader_readSum_95 r_Reader_readOne k9 v1 s0 v3 v4 0 V else b_Reader_readSum_95 r_Reader_readOne k9 v1 s0 v3 v4 1 V))
theorem tb_Reader_readSum_76 (e : Nat) (he : 4 ≤ e) (r_Reader_readOne : Int32 → xV → Option (Int32 × xV)) (hr_Reader_readOne : ∀ (x0 : Int32) (V : xV) (L : xL) (p : Int32 × xV), r_Reader_readOne x0 V = some p → xRuns e M_Reader_readOne [.ref 46, .int x0] (SH, V, L) (fun o h' => o = some (.int p.1) ∧ h' = (SH, p.2, L))) {L : xL} (k9 : Int32 → Int32 → Int32 → Int32 → xV → Option (Int32 × xV)) (res : Int32 × xV) (hk9 : ∀ (v1 : Int32) (v2 : Int32) (v3 : Int32) (v4 : Int32) (V : xV), k9 v1 v2 v3 v4 V = some res → X M_Reader_readSum (xRm (e + 1) M_Reader_readSum) (xZ M_Reader_readSum (fun o h' => o = some (.int res.1) ∧ h' = (SH, res.2, L))) SH V L 0 0 9 [(0, .ref 46), (1, .int v1), (2, .int v2), (3, .int v3), (4, .int v4)] []) (v1 : Int32) (v3 : Int32) (v4 : Int32) (s0 : Int32) (V : xV) (h : b_Reader_readSum_76 r_Reader_readOne k9 v1 v3 v4 s0 V = some res) : X M_Reader_readSum (xRm (e + 1) M_Reader_readSum) (xZ M_Reader_readSum (fun o h' => o = some (.int res.1) ∧ h' = (SH, res.2, L))) SH V L 0 0 76 [(0, .ref 46), (1, .int v1), (3, .int v3), (4, .int v4)] [.int s0] := by
  unfold b_Reader_readSum_76 at h
  refine x_istore_n [(2, .int s0), (0, .ref 46), (1, .int v1), (3, .int v3), (4, .int v4)] d_Reader_readSum_76 rfl (Nat.le_of_ble_eq_true rfl) rfl ?_
  refine x_iload_n 0 d_Reader_readSum_77 rfl rfl ?_
  refine x_bipush 36 d_Reader_readSum_78 (by decide) ?_
  refine x_icmp_ne 137 d_Reader_readSum_80 (by decide) (fun c21 => ?_) (fun c21 => ?_)
  · replace h := xpos c21 h
    refine x_aload_n 1 d_Reader_readSum_137 rfl rfl ?_
    refine x_dup d_Reader_readSum_138 rfl ?_
    refine x_getI f_Reader_38 sh_46 rfl d_Reader_readSum_139 ?_
    refine x_iconst 1 d_Reader_readSum_142 (by decide) ?_
    refine x_iadd d_Reader_readSum_143 ?_
    refine x_putI f_Reader_38 sh_46 rfl rfl rfl d_Reader_readSum_144 ?_
    refine x_iinc 4 1 [(4, .int (v4 + 1)), (2, .int s0), (0, .ref 46), (1, .int v1), (3, .int v3)] d_Reader_readSum_147 rfl (by decide) (Nat.le_of_ble_eq_true rfl) rfl ?_
    refine x_goto 9 d_Reader_readSum_150 (by decide) ?_
    refine x_pick [2, 3, 1, 4, 0] rfl ?_
    exact hk9 v1 s0 v3 (v4 + 1) (x2 V 46 5 ((V 46 5) + 1)) h
  · replace h := xneg c21 h
    refine x_aload_n 1 d_Reader_readSum_83 rfl rfl ?_
    refine x_iload_n 3 d_Reader_readSum_84 rfl rfl ?_
    refine x_bipush 36 d_Reader_readSum_85 (by decide) ?_
    refine x_icmp_eq 94 d_Reader_readSum_87 (by decide) (fun c22 => ?_) (fun c22 => ?_)
    · replace h := xpos c22 h
      refine x_iconst 0 d_Reader_readSum_94 (by decide) ?_
      refine x_pick [1, 2, 0, 3, 4] rfl ?_
      exact tb_Reader_readSum_95 e he r_Reader_readOne hr_Reader_readOne (L := L) k9 res hk9 v1 s0 v3 v4 0 V h
    · replace h := xneg c22 h
      refine x_iconst 1 d_Reader_readSum_90 (by decide) ?_
      refine x_goto 95 d_Reader_readSum_91 (by decide) ?_
      refine x_pick [1, 2, 0, 3, 4] rfl ?_
      exact tb_Reader_readSum_95 e he r_Reader_readOne hr_Reader_readOne (L := L) k9 res hk9 v1 s0 v3 v4 1 V h
def b_Reader_readSum_43 (r_Reader_readOne : Int32 → xV → Option (Int32 × xV)) (k9 : Int32 → Int32 → Int32 → Int32 → xV → Option (Int32 × xV)) (v1 : Int32) (v2 : Int32) (v3 : Int32) (v4 : Int32) (s0 : Int32) (V : xV) : Option (Int32 × xV) := (Option.bind (f_Reader_emitIf s0 ((-1) - v2) V) fun p9 => (Option.bind (f_Reader_kind p9) fun p11 => (if p11 = 30 then (Option.bind (f_Reader_kind p9) fun p14 => b_Reader_readSum_76 r_Reader_readOne k9 v1 v3 v4 p14 p9) else (Option.bind (f_Reader_kind p9) fun p16 => (if ¬ p16 = 31 then b_Reader_readSum_76 r_Reader_readOne k9 v1 v3 v4 36 p9 else (Option.bind (f_Reader_kind p9) fun p19 => b_Reader_readSum_76 r_Reader_readOne k9 v1 v3 v4 p19 p9))))))
theorem tb_Reader_readSum_43 (e : Nat) (he : 4 ≤ e) (r_Reader_readOne : Int32 → xV → Option (Int32 × xV)) (hr_Reader_readOne : ∀ (x0 : Int32) (V : xV) (L : xL) (p : Int32 × xV), r_Reader_readOne x0 V = some p → xRuns e M_Reader_readOne [.ref 46, .int x0] (SH, V, L) (fun o h' => o = some (.int p.1) ∧ h' = (SH, p.2, L))) {L : xL} (k9 : Int32 → Int32 → Int32 → Int32 → xV → Option (Int32 × xV)) (res : Int32 × xV) (hk9 : ∀ (v1 : Int32) (v2 : Int32) (v3 : Int32) (v4 : Int32) (V : xV), k9 v1 v2 v3 v4 V = some res → X M_Reader_readSum (xRm (e + 1) M_Reader_readSum) (xZ M_Reader_readSum (fun o h' => o = some (.int res.1) ∧ h' = (SH, res.2, L))) SH V L 0 0 9 [(0, .ref 46), (1, .int v1), (2, .int v2), (3, .int v3), (4, .int v4)] []) (v1 : Int32) (v2 : Int32) (v3 : Int32) (v4 : Int32) (s0 : Int32) (V : xV) (h : b_Reader_readSum_43 r_Reader_readOne k9 v1 v2 v3 v4 s0 V = some res) : X M_Reader_readSum (xRm (e + 1) M_Reader_readSum) (xZ M_Reader_readSum (fun o h' => o = some (.int res.1) ∧ h' = (SH, res.2, L))) SH V L 0 0 43 [(0, .ref 46), (1, .int v1), (2, .int v2), (3, .int v3), (4, .int v4)] [.int s0, .ref 46] := by
  unfold b_Reader_readSum_43 at h
  refine x_iconst (-1) d_Reader_readSum_43 (by decide) ?_
  refine x_iload_n 2 d_Reader_readSum_44 rfl rfl ?_
  refine x_isub d_Reader_readSum_45 ?_
  obtain ⟨p9, e10, h⟩ := xbind h
  refine x_callV0v e_Reader_96 sh_46 rfl (t_Reader_emitIf s0 ((-1) - v2) V L _ e10) rfl rfl rfl (Nat.le_of_ble_eq_true rfl) (xfit_of (by omega) (Nat.le_of_ble_eq_true rfl)) (Nat.zero_le _) (Nat.zero_le _) d_Reader_readSum_46 ?_
  refine x_aload_n 0 d_Reader_readSum_49 rfl rfl ?_
  obtain ⟨p11, e12, h⟩ := xbind h
  refine x_callV0 e_Reader_48 sh_46 rfl (t_Reader_kind p9 L _ e12) rfl rfl rfl (Nat.le_of_ble_eq_true rfl) (xfit_of (by omega) (Nat.le_of_ble_eq_true rfl)) (Nat.zero_le _) (Nat.zero_le _) d_Reader_readSum_50 ?_
  refine x_bipush 30 d_Reader_readSum_53 (by decide) ?_
  refine x_icmp_eq 67 d_Reader_readSum_55 (by decide) (fun c13 => ?_) (fun c13 => ?_)
  · replace h := xpos c13 h
    refine x_aload_n 0 d_Reader_readSum_67 rfl rfl ?_
    obtain ⟨p14, e15, h⟩ := xbind h
    refine x_callV0 e_Reader_48 sh_46 rfl (t_Reader_kind p9 L _ e15) rfl rfl rfl (Nat.le_of_ble_eq_true rfl) (xfit_of (by omega) (Nat.le_of_ble_eq_true rfl)) (Nat.zero_le _) (Nat.zero_le _) d_Reader_readSum_68 ?_
    refine x_goto 76 d_Reader_readSum_71 (by decide) ?_
    refine x_pick [0, 1, 3, 4] rfl ?_
    exact tb_Reader_readSum_76 e he r_Reader_readOne hr_Reader_readOne (L := L) k9 res hk9 v1 v3 v4 p14 p9 h
  · replace h := xneg c13 h
    refine x_aload_n 0 d_Reader_readSum_58 rfl rfl ?_
    obtain ⟨p16, e17, h⟩ := xbind h
    refine x_callV0 e_Reader_48 sh_46 rfl (t_Reader_kind p9 L _ e17) rfl rfl rfl (Nat.le_of_ble_eq_true rfl) (xfit_of (by omega) (Nat.le_of_ble_eq_true rfl)) (Nat.zero_le _) (Nat.zero_le _) d_Reader_readSum_59 ?_
    refine x_bipush 31 d_Reader_readSum_62 (by decide) ?_
    refine x_icmp_ne 74 d_Reader_readSum_64 (by decide) (fun c18 => ?_) (fun c18 => ?_)
    · replace h := xpos c18 h
      refine x_bipush 36 d_Reader_readSum_74 (by decide) ?_
      refine x_pick [0, 1, 3, 4] rfl ?_
      exact tb_Reader_readSum_76 e he r_Reader_readOne hr_Reader_readOne (L := L) k9 res hk9 v1 v3 v4 36 p9 h
    · replace h := xneg c18 h
      refine x_aload_n 0 d_Reader_readSum_67 rfl rfl ?_
      obtain ⟨p19, e20, h⟩ := xbind h
      refine x_callV0 e_Reader_48 sh_46 rfl (t_Reader_kind p9 L _ e20) rfl rfl rfl (Nat.le_of_ble_eq_true rfl) (xfit_of (by omega) (Nat.le_of_ble_eq_true rfl)) (Nat.zero_le _) (Nat.zero_le _) d_Reader_readSum_68 ?_
      refine x_goto 76 d_Reader_readSum_71 (by decide) ?_
      refine x_pick [0, 1, 3, 4] rfl ?_
      exact tb_Reader_readSum_76 e he r_Reader_readOne hr_Reader_readOne (L := L) k9 res hk9 v1 v3 v4 p19 p9 h
def b_Reader_readSum_9 (r_Reader_readOne : Int32 → xV → Option (Int32 × xV)) (k9 : Int32 → Int32 → Int32 → Int32 → xV → Option (Int32 × xV)) (v1 : Int32) (v2 : Int32) (v3 : Int32) (v4 : Int32) (V : xV) : Option (Int32 × xV) := (if (V 47 3) ≤ v4 then (Option.bind (f_Reader_wrong 1 V) fun p2 => (if p2.1 = 0 ∨ p2.1 = 1 then some (p2.1, p2.2) else none)) else (Option.bind (r_Reader_readOne v1 V) fun p5 => (if ¬ p5.1 = 0 then (if v2 = 36 then b_Reader_readSum_43 r_Reader_readOne k9 v1 v2 v3 v4 0 p5.2 else b_Reader_readSum_43 r_Reader_readOne k9 v1 v2 v3 v4 1 p5.2) else some (0, p5.2))))
theorem tb_Reader_readSum_9 (e : Nat) (he : 4 ≤ e) (r_Reader_readOne : Int32 → xV → Option (Int32 × xV)) (hr_Reader_readOne : ∀ (x0 : Int32) (V : xV) (L : xL) (p : Int32 × xV), r_Reader_readOne x0 V = some p → xRuns e M_Reader_readOne [.ref 46, .int x0] (SH, V, L) (fun o h' => o = some (.int p.1) ∧ h' = (SH, p.2, L))) {L : xL} (k9 : Int32 → Int32 → Int32 → Int32 → xV → Option (Int32 × xV)) (res : Int32 × xV) (hk9 : ∀ (v1 : Int32) (v2 : Int32) (v3 : Int32) (v4 : Int32) (V : xV), k9 v1 v2 v3 v4 V = some res → X M_Reader_readSum (xRm (e + 1) M_Reader_readSum) (xZ M_Reader_readSum (fun o h' => o = some (.int res.1) ∧ h' = (SH, res.2, L))) SH V L 0 0 9 [(0, .ref 46), (1, .int v1), (2, .int v2), (3, .int v3), (4, .int v4)] []) (v1 : Int32) (v2 : Int32) (v3 : Int32) (v4 : Int32) (V : xV) (h : b_Reader_readSum_9 r_Reader_readOne k9 v1 v2 v3 v4 V = some res) : X M_Reader_readSum (xRm (e + 1) M_Reader_readSum) (xZ M_Reader_readSum (fun o h' => o = some (.int res.1) ∧ h' = (SH, res.2, L))) SH V L 0 0 9 [(0, .ref 46), (1, .int v1), (2, .int v2), (3, .int v3), (4, .int v4)] [] := by
  unfold b_Reader_readSum_9 at h
  refine x_iload 4 d_Reader_readSum_9 rfl ?_
  refine x_aload_n 0 d_Reader_readSum_11 rfl rfl ?_
  refine x_getP (q := 47) f_Reader_18 sh_46 rfl d_Reader_readSum_12 ?_
  refine x_getI f_Reader_45 sh_47 rfl d_Reader_readSum_15 ?_
  refine x_icmp_ge 153 d_Reader_readSum_18 (by decide) (fun c1 => ?_) (fun c1 => ?_)
  · replace h := xpos c1 h
    refine x_aload_n 0 d_Reader_readSum_153 rfl rfl ?_
    refine x_iconst 1 d_Reader_readSum_154 (by decide) ?_
    obtain ⟨p2, e3, h⟩ := xbind h
    refine x_callV0 e_Reader_73 sh_46 rfl (t_Reader_wrong 1 V L _ e3) rfl rfl rfl (Nat.le_of_ble_eq_true rfl) (xfit_of (by omega) (Nat.le_of_ble_eq_true rfl)) (Nat.zero_le _) (Nat.zero_le _) d_Reader_readSum_155 ?_
    obtain ⟨c4, h⟩ := xguard h
    obtain rfl := Option.some.inj h
    exact x_zreturn rfl (xnz c4) d_Reader_readSum_158 (Nat.le_refl _) (Nat.le_refl _) ⟨rfl, rfl⟩
  · replace h := xneg c1 h
    refine x_aload_n 0 d_Reader_readSum_21 rfl rfl ?_
    refine x_iload_n 1 d_Reader_readSum_22 rfl rfl ?_
    obtain ⟨p5, e6, h⟩ := xbind h
    refine x_callV0 e_Reader_100 sh_46 rfl (hr_Reader_readOne v1 V L _ e6) rfl rfl rfl (Nat.le_of_ble_eq_true rfl) (xfit_of (by omega) (Nat.le_of_ble_eq_true rfl)) (Nat.zero_le _) (Nat.zero_le _) d_Reader_readSum_23 ?_
    refine x_if_ne 31 d_Reader_readSum_26 (by decide) (fun c7 => ?_) (fun c7 => ?_)
    · replace h := xpos c7 h
      refine x_aload_n 0 d_Reader_readSum_31 rfl rfl ?_
      refine x_iload_n 2 d_Reader_readSum_32 rfl rfl ?_
      refine x_bipush 36 d_Reader_readSum_33 (by decide) ?_
      refine x_icmp_eq 42 d_Reader_readSum_35 (by decide) (fun c8 => ?_) (fun c8 => ?_)
      · replace h := xpos c8 h
        refine x_iconst 0 d_Reader_readSum_42 (by decide) ?_
        exact tb_Reader_readSum_43 e he r_Reader_readOne hr_Reader_readOne (L := L) k9 res hk9 v1 v2 v3 v4 0 p5.2 h
      · replace h := xneg c8 h
        refine x_iconst 1 d_Reader_readSum_38 (by decide) ?_
        refine x_goto 43 d_Reader_readSum_39 (by decide) ?_
        exact tb_Reader_readSum_43 e he r_Reader_readOne hr_Reader_readOne (L := L) k9 res hk9 v1 v2 v3 v4 1 p5.2 h
    · replace h := xneg c7 h
      refine x_iconst 0 d_Reader_readSum_29 (by decide) ?_
      obtain rfl := Option.some.inj h
      exact x_zreturn rfl rfl d_Reader_readSum_30 (Nat.le_refl _) (Nat.le_refl _) ⟨rfl, rfl⟩
def g_Reader_readSum_9 (r_Reader_readOne : Int32 → xV → Option (Int32 × xV)) : Nat → Int32 → Int32 → Int32 → Int32 → xV → Option (Int32 × xV)
  | 0, _, _, _, _, _ => none
  | n + 1, v1, v2, v3, v4, V => b_Reader_readSum_9 r_Reader_readOne (g_Reader_readSum_9 r_Reader_readOne n) v1 v2 v3 v4 V
theorem tg_Reader_readSum_9 (e : Nat) (he : 4 ≤ e) (r_Reader_readOne : Int32 → xV → Option (Int32 × xV)) (hr_Reader_readOne : ∀ (x0 : Int32) (V : xV) (L : xL) (p : Int32 × xV), r_Reader_readOne x0 V = some p → xRuns e M_Reader_readOne [.ref 46, .int x0] (SH, V, L) (fun o h' => o = some (.int p.1) ∧ h' = (SH, p.2, L))) {L : xL} (res : Int32 × xV)  : ∀ (n : Nat) (v1 : Int32) (v2 : Int32) (v3 : Int32) (v4 : Int32) (V : xV), g_Reader_readSum_9 r_Reader_readOne n v1 v2 v3 v4 V = some res → X M_Reader_readSum (xRm (e + 1) M_Reader_readSum) (xZ M_Reader_readSum (fun o h' => o = some (.int res.1) ∧ h' = (SH, res.2, L))) SH V L 0 0 9 [(0, .ref 46), (1, .int v1), (2, .int v2), (3, .int v3), (4, .int v4)] []
  | 0, _, _, _, _, _, h => by cases h
  | n + 1, v1, v2, v3, v4, V, h => tb_Reader_readSum_9 e he r_Reader_readOne hr_Reader_readOne (L := L) (g_Reader_readSum_9 r_Reader_readOne n) res (tg_Reader_readSum_9 e he r_Reader_readOne hr_Reader_readOne (L := L) res n) v1 v2 v3 v4 V h
def F_Reader_readSum (r_Reader_readOne : Int32 → xV → Option (Int32 × xV)) (a1 : Int32) (V : xV) : Option (Int32 × xV) := g_Reader_readSum_9 r_Reader_readOne 2000 a1 36 36 0 V
theorem T_Reader_readSum (e : Nat) (he : 4 ≤ e) (r_Reader_readOne : Int32 → xV → Option (Int32 × xV)) (hr_Reader_readOne : ∀ (x0 : Int32) (V : xV) (L : xL) (p : Int32 × xV), r_Reader_readOne x0 V = some p → xRuns e M_Reader_readOne [.ref 46, .int x0] (SH, V, L) (fun o h' => o = some (.int p.1) ∧ h' = (SH, p.2, L))) (a1 : Int32) (V : xV) (L : xL) (res : Int32 × xV) (h : F_Reader_readSum r_Reader_readOne a1 V = some res) : xRuns (e + 1) M_Reader_readSum [.ref 46, .int a1] (SH, V, L) (fun o h' => o = some (.int res.1) ∧ h' = (SH, res.2, L)) := by
  refine xRuns_of (by decide) (Nat.le_of_ble_eq_true rfl) ?_
  unfold F_Reader_readSum at h
  show X M_Reader_readSum (xRm (e + 1) M_Reader_readSum) (xZ M_Reader_readSum (fun o h' => o = some (.int res.1) ∧ h' = (SH, res.2, L))) SH V L 0 0 0 [(0, .ref 46), (1, .int a1)] []
  refine x_bipush 36 d_Reader_readSum_0 (by decide) ?_
  refine x_istore_n [(2, .int 36), (0, .ref 46), (1, .int a1)] d_Reader_readSum_2 rfl (Nat.le_of_ble_eq_true rfl) rfl ?_
  refine x_bipush 36 d_Reader_readSum_3 (by decide) ?_
  refine x_istore_n [(3, .int 36), (2, .int 36), (0, .ref 46), (1, .int a1)] d_Reader_readSum_5 rfl (Nat.le_of_ble_eq_true rfl) rfl ?_
  refine x_iconst 0 d_Reader_readSum_6 (by decide) ?_
  refine x_istore [(4, .int 0), (3, .int 36), (2, .int 36), (0, .ref 46), (1, .int a1)] d_Reader_readSum_7 (Nat.le_of_ble_eq_true rfl) rfl ?_
  refine x_pick [3, 4, 2, 1, 0] rfl ?_
  exact tg_Reader_readSum_9 e he r_Reader_readOne hr_Reader_readOne (L := L) res _ a1 36 36 0 V h
def f_Reader_readOne : Nat → Int32 → xV → Option (Int32 × xV)
  | 0, _, _ => none
  | n + 1, a, V => F_Reader_readOne (fun a V => F_Reader_readSum (f_Reader_readOne n) a V) a V
def f_Reader_readSum (n : Nat) (a : Int32) (V : xV) : Option (Int32 × xV) := F_Reader_readSum (f_Reader_readOne n) a V
theorem t_Reader_readOne : ∀ (n : Nat) (a1 : Int32) (V : xV) (L : xL) (res : Int32 × xV), f_Reader_readOne n a1 V = some res → xRuns (2 * n + 4) M_Reader_readOne [.ref 46, .int a1] (SH, V, L) (fun o h' => o = some (.int res.1) ∧ h' = (SH, res.2, L))
  | 0, _, _, _, _, h => by cases h
  | n + 1, a1, V, L, res, h => T_Reader_readOne (2 * n + 5) (by omega) _ (fun x0 V L p hp => T_Reader_readSum (2 * n + 4) (by omega) _ (t_Reader_readOne n) x0 V L p hp) a1 V L res h
theorem t_Reader_readSum (n : Nat) (a1 : Int32) (V : xV) (L : xL) (res : Int32 × xV) (h : f_Reader_readSum n a1 V = some res) : xRuns (2 * n + 5) M_Reader_readSum [.ref 46, .int a1] (SH, V, L) (fun o h' => o = some (.int res.1) ∧ h' = (SH, res.2, L)) := T_Reader_readSum (2 * n + 4) (by omega) _ (t_Reader_readOne n) a1 V L res h
-- Reader_readAsk
def b_Reader_readAsk_50 (v1 : Int32) (V : xV) : Option (Int32 × xV) := (Option.bind (f_Reader_readSum 9 v1 V) fun p9 => (if ¬ p9.1 = 0 then (Option.bind (f_Reader_kind p9.2) fun p12 => (if p12 < 22 then (Option.bind (f_Reader_wrong 1 p9.2) fun p15 => (if p15.1 = 0 ∨ p15.1 = 1 then some (p15.1, p15.2) else none)) else (if p12 ≤ 27 then (Option.bind (f_Reader_readSum 9 v1 (x2 p9.2 46 5 ((p9.2 46 5) + 1))) fun p19 => (if ¬ p19.1 = 0 then (Option.bind (f_Reader_emitIf 1 ((-1) - p12) p19.2) fun p22 => (if ¬ (xrem v1 2) = 1 then (Option.bind (f_Reader_emitIf 0 (-9) p22) fun p25 => some (1, p25)) else (Option.bind (f_Reader_emitIf 1 (-9) p22) fun p27 => some (1, p27)))) else some (0, p19.2))) else (Option.bind (f_Reader_wrong 1 p9.2) fun p29 => (if p29.1 = 0 ∨ p29.1 = 1 then some (p29.1, p29.2) else none))))) else some (0, p9.2)))
theorem tb_Reader_readAsk_50 {L : xL} (res : Int32 × xV)  (v1 : Int32) (V : xV) (h : b_Reader_readAsk_50 v1 V = some res) : X M_Reader_readAsk (xRm (24) M_Reader_readAsk) (xZ M_Reader_readAsk (fun o h' => o = some (.int res.1) ∧ h' = (SH, res.2, L))) SH V L 0 0 50 [(0, .ref 46), (1, .int v1)] [] := by
  unfold b_Reader_readAsk_50 at h
  refine x_aload_n 0 d_Reader_readAsk_50 rfl rfl ?_
  refine x_iload_n 1 d_Reader_readAsk_51 rfl rfl ?_
  obtain ⟨p9, e10, h⟩ := xbind h
  refine x_callV0 e_Reader_83 sh_46 rfl (t_Reader_readSum 9 v1 V L _ e10) rfl rfl rfl (Nat.le_of_ble_eq_true rfl) (xfit_of (by omega) (Nat.le_of_ble_eq_true rfl)) (Nat.zero_le _) (Nat.zero_le _) d_Reader_readAsk_52 ?_
  refine x_if_ne 60 d_Reader_readAsk_55 (by decide) (fun c11 => ?_) (fun c11 => ?_)
  · replace h := xpos c11 h
    refine x_aload_n 0 d_Reader_readAsk_60 rfl rfl ?_
    obtain ⟨p12, e13, h⟩ := xbind h
    refine x_callV0 e_Reader_48 sh_46 rfl (t_Reader_kind p9.2 L _ e13) rfl rfl rfl (Nat.le_of_ble_eq_true rfl) (xfit_of (by omega) (Nat.le_of_ble_eq_true rfl)) (Nat.zero_le _) (Nat.zero_le _) d_Reader_readAsk_61 ?_
    refine x_istore_n [(2, .int p12), (0, .ref 46), (1, .int v1)] d_Reader_readAsk_64 rfl (Nat.le_of_ble_eq_true rfl) rfl ?_
    refine x_iload_n 0 d_Reader_readAsk_65 rfl rfl ?_
    refine x_bipush 22 d_Reader_readAsk_66 (by decide) ?_
    refine x_icmp_lt 77 d_Reader_readAsk_68 (by decide) (fun c14 => ?_) (fun c14 => ?_)
    · replace h := xpos c14 h
      refine x_aload_n 1 d_Reader_readAsk_77 rfl rfl ?_
      refine x_iconst 1 d_Reader_readAsk_78 (by decide) ?_
      obtain ⟨p15, e16, h⟩ := xbind h
      refine x_callV0 e_Reader_73 sh_46 rfl (t_Reader_wrong 1 p9.2 L _ e16) rfl rfl rfl (Nat.le_of_ble_eq_true rfl) (xfit_of (by omega) (Nat.le_of_ble_eq_true rfl)) (Nat.zero_le _) (Nat.zero_le _) d_Reader_readAsk_79 ?_
      obtain ⟨c17, h⟩ := xguard h
      obtain rfl := Option.some.inj h
      exact x_zreturn rfl (xnz c17) d_Reader_readAsk_82 (Nat.le_refl _) (Nat.le_refl _) ⟨rfl, rfl⟩
    · replace h := xneg c14 h
      refine x_iload_n 0 d_Reader_readAsk_71 rfl rfl ?_
      refine x_bipush 27 d_Reader_readAsk_72 (by decide) ?_
      refine x_icmp_le 83 d_Reader_readAsk_74 (by decide) (fun c18 => ?_) (fun c18 => ?_)
      · replace h := xpos c18 h
        refine x_aload_n 1 d_Reader_readAsk_83 rfl rfl ?_
        refine x_dup d_Reader_readAsk_84 rfl ?_
        refine x_getI f_Reader_38 sh_46 rfl d_Reader_readAsk_85 ?_
        refine x_iconst 1 d_Reader_readAsk_88 (by decide) ?_
        refine x_iadd d_Reader_readAsk_89 ?_
        refine x_putI f_Reader_38 sh_46 rfl rfl rfl d_Reader_readAsk_90 ?_
        refine x_aload_n 1 d_Reader_readAsk_93 rfl rfl ?_
        refine x_iload_n 2 d_Reader_readAsk_94 rfl rfl ?_
        obtain ⟨p19, e20, h⟩ := xbind h
        refine x_callV0 e_Reader_83 sh_46 rfl (t_Reader_readSum 9 v1 (x2 p9.2 46 5 ((p9.2 46 5) + 1)) L _ e20) rfl rfl rfl (Nat.le_of_ble_eq_true rfl) (xfit_of (by omega) (Nat.le_of_ble_eq_true rfl)) (Nat.zero_le _) (Nat.zero_le _) d_Reader_readAsk_95 ?_
        refine x_if_ne 103 d_Reader_readAsk_98 (by decide) (fun c21 => ?_) (fun c21 => ?_)
        · replace h := xpos c21 h
          refine x_aload_n 1 d_Reader_readAsk_103 rfl rfl ?_
          refine x_iconst 1 d_Reader_readAsk_104 (by decide) ?_
          refine x_iconst (-1) d_Reader_readAsk_105 (by decide) ?_
          refine x_iload_n 0 d_Reader_readAsk_106 rfl rfl ?_
          refine x_isub d_Reader_readAsk_107 ?_
          obtain ⟨p22, e23, h⟩ := xbind h
          refine x_callV0v e_Reader_96 sh_46 rfl (t_Reader_emitIf 1 ((-1) - p12) p19.2 L _ e23) rfl rfl rfl (Nat.le_of_ble_eq_true rfl) (xfit_of (by omega) (Nat.le_of_ble_eq_true rfl)) (Nat.zero_le _) (Nat.zero_le _) d_Reader_readAsk_108 ?_
          refine x_aload_n 1 d_Reader_readAsk_111 rfl rfl ?_
          refine x_iload_n 2 d_Reader_readAsk_112 rfl rfl ?_
          refine x_iconst 2 d_Reader_readAsk_113 (by decide) ?_
          refine x_irem2 d_Reader_readAsk_114 (by decide) ?_
          refine x_iconst 1 d_Reader_readAsk_115 (by decide) ?_
          refine x_icmp_ne 123 d_Reader_readAsk_116 (by decide) (fun c24 => ?_) (fun c24 => ?_)
          · replace h := xpos c24 h
            refine x_iconst 0 d_Reader_readAsk_123 (by decide) ?_
            refine x_bipush (-9) d_Reader_readAsk_124 (by decide) ?_
            obtain ⟨p25, e26, h⟩ := xbind h
            refine x_callV0v e_Reader_96 sh_46 rfl (t_Reader_emitIf 0 (-9) p22 L _ e26) rfl rfl rfl (Nat.le_of_ble_eq_true rfl) (xfit_of (by omega) (Nat.le_of_ble_eq_true rfl)) (Nat.zero_le _) (Nat.zero_le _) d_Reader_readAsk_126 ?_
            refine x_iconst 1 d_Reader_readAsk_129 (by decide) ?_
            obtain rfl := Option.some.inj h
            exact x_zreturn rfl rfl d_Reader_readAsk_130 (Nat.le_refl _) (Nat.le_refl _) ⟨rfl, rfl⟩
          · replace h := xneg c24 h
            refine x_iconst 1 d_Reader_readAsk_119 (by decide) ?_
            refine x_goto 124 d_Reader_readAsk_120 (by decide) ?_
            refine x_bipush (-9) d_Reader_readAsk_124 (by decide) ?_
            obtain ⟨p27, e28, h⟩ := xbind h
            refine x_callV0v e_Reader_96 sh_46 rfl (t_Reader_emitIf 1 (-9) p22 L _ e28) rfl rfl rfl (Nat.le_of_ble_eq_true rfl) (xfit_of (by omega) (Nat.le_of_ble_eq_true rfl)) (Nat.zero_le _) (Nat.zero_le _) d_Reader_readAsk_126 ?_
            refine x_iconst 1 d_Reader_readAsk_129 (by decide) ?_
            obtain rfl := Option.some.inj h
            exact x_zreturn rfl rfl d_Reader_readAsk_130 (Nat.le_refl _) (Nat.le_refl _) ⟨rfl, rfl⟩
        · replace h := xneg c21 h
          refine x_iconst 0 d_Reader_readAsk_101 (by decide) ?_
          obtain rfl := Option.some.inj h
          exact x_zreturn rfl rfl d_Reader_readAsk_102 (Nat.le_refl _) (Nat.le_refl _) ⟨rfl, rfl⟩
      · replace h := xneg c18 h
        refine x_aload_n 1 d_Reader_readAsk_77 rfl rfl ?_
        refine x_iconst 1 d_Reader_readAsk_78 (by decide) ?_
        obtain ⟨p29, e30, h⟩ := xbind h
        refine x_callV0 e_Reader_73 sh_46 rfl (t_Reader_wrong 1 p9.2 L _ e30) rfl rfl rfl (Nat.le_of_ble_eq_true rfl) (xfit_of (by omega) (Nat.le_of_ble_eq_true rfl)) (Nat.zero_le _) (Nat.zero_le _) d_Reader_readAsk_79 ?_
        obtain ⟨c31, h⟩ := xguard h
        obtain rfl := Option.some.inj h
        exact x_zreturn rfl (xnz c31) d_Reader_readAsk_82 (Nat.le_refl _) (Nat.le_refl _) ⟨rfl, rfl⟩
  · replace h := xneg c11 h
    refine x_iconst 0 d_Reader_readAsk_58 (by decide) ?_
    obtain rfl := Option.some.inj h
    exact x_zreturn rfl rfl d_Reader_readAsk_59 (Nat.le_refl _) (Nat.le_refl _) ⟨rfl, rfl⟩
def b_Reader_readAsk_4 (k4 : Int32 → Int32 → xV → Option (Int32 × xV)) (v1 : Int32) (v2 : Int32) (V : xV) : Option (Int32 × xV) := (if 8 < v2 then b_Reader_readAsk_50 v1 V else (Option.bind (f_Reader_kind V) fun p2 => (if ¬ p2 = 8 then b_Reader_readAsk_50 v1 V else (if v1 < 8 then k4 (v1 + 1) (v2 + 1) (x2 V 46 5 ((V 46 5) + 1)) else (Option.bind (f_Reader_wrong 3 V) fun p6 => (if p6.1 = 0 ∨ p6.1 = 1 then some (p6.1, p6.2) else none))))))
theorem tb_Reader_readAsk_4 {L : xL} (k4 : Int32 → Int32 → xV → Option (Int32 × xV)) (res : Int32 × xV) (hk4 : ∀ (v1 : Int32) (v2 : Int32) (V : xV), k4 v1 v2 V = some res → X M_Reader_readAsk (xRm (24) M_Reader_readAsk) (xZ M_Reader_readAsk (fun o h' => o = some (.int res.1) ∧ h' = (SH, res.2, L))) SH V L 0 0 4 [(0, .ref 46), (1, .int v1), (2, .int v2)] []) (v1 : Int32) (v2 : Int32) (V : xV) (h : b_Reader_readAsk_4 k4 v1 v2 V = some res) : X M_Reader_readAsk (xRm (24) M_Reader_readAsk) (xZ M_Reader_readAsk (fun o h' => o = some (.int res.1) ∧ h' = (SH, res.2, L))) SH V L 0 0 4 [(0, .ref 46), (1, .int v1), (2, .int v2)] [] := by
  unfold b_Reader_readAsk_4 at h
  refine x_iload_n 2 d_Reader_readAsk_4 rfl rfl ?_
  refine x_bipush 8 d_Reader_readAsk_5 (by decide) ?_
  refine x_icmp_gt 50 d_Reader_readAsk_7 (by decide) (fun c1 => ?_) (fun c1 => ?_)
  · replace h := xpos c1 h
    refine x_pick [0, 1] rfl ?_
    exact tb_Reader_readAsk_50 (L := L) res v1 V h
  · replace h := xneg c1 h
    refine x_aload_n 0 d_Reader_readAsk_10 rfl rfl ?_
    obtain ⟨p2, e3, h⟩ := xbind h
    refine x_callV0 e_Reader_48 sh_46 rfl (t_Reader_kind V L _ e3) rfl rfl rfl (Nat.le_of_ble_eq_true rfl) (xfit_of (by omega) (Nat.le_of_ble_eq_true rfl)) (Nat.zero_le _) (Nat.zero_le _) d_Reader_readAsk_11 ?_
    refine x_bipush 8 d_Reader_readAsk_14 (by decide) ?_
    refine x_icmp_ne 50 d_Reader_readAsk_16 (by decide) (fun c4 => ?_) (fun c4 => ?_)
    · replace h := xpos c4 h
      refine x_pick [0, 1] rfl ?_
      exact tb_Reader_readAsk_50 (L := L) res v1 V h
    · replace h := xneg c4 h
      refine x_iload_n 1 d_Reader_readAsk_19 rfl rfl ?_
      refine x_bipush 8 d_Reader_readAsk_20 (by decide) ?_
      refine x_icmp_lt 31 d_Reader_readAsk_22 (by decide) (fun c5 => ?_) (fun c5 => ?_)
      · replace h := xpos c5 h
        refine x_iinc 1 1 [(1, .int (v1 + 1)), (0, .ref 46), (2, .int v2)] d_Reader_readAsk_31 rfl (by decide) (Nat.le_of_ble_eq_true rfl) rfl ?_
        refine x_aload_n 1 d_Reader_readAsk_34 rfl rfl ?_
        refine x_dup d_Reader_readAsk_35 rfl ?_
        refine x_getI f_Reader_38 sh_46 rfl d_Reader_readAsk_36 ?_
        refine x_iconst 1 d_Reader_readAsk_39 (by decide) ?_
        refine x_iadd d_Reader_readAsk_40 ?_
        refine x_putI f_Reader_38 sh_46 rfl rfl rfl d_Reader_readAsk_41 ?_
        refine x_iinc 2 1 [(2, .int (v2 + 1)), (1, .int (v1 + 1)), (0, .ref 46)] d_Reader_readAsk_44 rfl (by decide) (Nat.le_of_ble_eq_true rfl) rfl ?_
        refine x_goto 4 d_Reader_readAsk_47 (by decide) ?_
        refine x_pick [2, 1, 0] rfl ?_
        exact hk4 (v1 + 1) (v2 + 1) (x2 V 46 5 ((V 46 5) + 1)) h
      · replace h := xneg c5 h
        refine x_aload_n 0 d_Reader_readAsk_25 rfl rfl ?_
        refine x_iconst 3 d_Reader_readAsk_26 (by decide) ?_
        obtain ⟨p6, e7, h⟩ := xbind h
        refine x_callV0 e_Reader_73 sh_46 rfl (t_Reader_wrong 3 V L _ e7) rfl rfl rfl (Nat.le_of_ble_eq_true rfl) (xfit_of (by omega) (Nat.le_of_ble_eq_true rfl)) (Nat.zero_le _) (Nat.zero_le _) d_Reader_readAsk_27 ?_
        obtain ⟨c8, h⟩ := xguard h
        obtain rfl := Option.some.inj h
        exact x_zreturn rfl (xnz c8) d_Reader_readAsk_30 (Nat.le_refl _) (Nat.le_refl _) ⟨rfl, rfl⟩
def g_Reader_readAsk_4  : Nat → Int32 → Int32 → xV → Option (Int32 × xV)
  | 0, _, _, _ => none
  | n + 1, v1, v2, V => b_Reader_readAsk_4 (g_Reader_readAsk_4  n) v1 v2 V
theorem tg_Reader_readAsk_4 {L : xL} (res : Int32 × xV)  : ∀ (n : Nat) (v1 : Int32) (v2 : Int32) (V : xV), g_Reader_readAsk_4  n v1 v2 V = some res → X M_Reader_readAsk (xRm (24) M_Reader_readAsk) (xZ M_Reader_readAsk (fun o h' => o = some (.int res.1) ∧ h' = (SH, res.2, L))) SH V L 0 0 4 [(0, .ref 46), (1, .int v1), (2, .int v2)] []
  | 0, _, _, _, h => by cases h
  | n + 1, v1, v2, V, h => tb_Reader_readAsk_4 (L := L) (g_Reader_readAsk_4  n) res (tg_Reader_readAsk_4 (L := L) res n) v1 v2 V h
def f_Reader_readAsk (V : xV) : Option (Int32 × xV) := g_Reader_readAsk_4 2000 0 0 V
theorem t_Reader_readAsk  (V : xV) (L : xL) (res : Int32 × xV) (h : f_Reader_readAsk V = some res) : xRuns (24) M_Reader_readAsk [.ref 46] (SH, V, L) (fun o h' => o = some (.int res.1) ∧ h' = (SH, res.2, L)) := by
  refine xRuns_of (by decide) (Nat.le_of_ble_eq_true rfl) ?_
  unfold f_Reader_readAsk at h
  show X M_Reader_readAsk (xRm (24) M_Reader_readAsk) (xZ M_Reader_readAsk (fun o h' => o = some (.int res.1) ∧ h' = (SH, res.2, L))) SH V L 0 0 0 [(0, .ref 46)] []
  refine x_iconst 0 d_Reader_readAsk_0 (by decide) ?_
  refine x_istore_n [(1, .int 0), (0, .ref 46)] d_Reader_readAsk_1 rfl (Nat.le_of_ble_eq_true rfl) rfl ?_
  refine x_iconst 0 d_Reader_readAsk_2 (by decide) ?_
  refine x_istore_n [(2, .int 0), (1, .int 0), (0, .ref 46)] d_Reader_readAsk_3 rfl (Nat.le_of_ble_eq_true rfl) rfl ?_
  refine x_pick [2, 1, 0] rfl ?_
  exact tg_Reader_readAsk_4 (L := L) res _ 0 0 V h
-- Reader_readEither
def b_Reader_readEither_73 (k6 : Int32 → Int32 → Int32 → xV → Option (Int32 × xV)) (v2 : Int32) (v3 : Int32) (s0 : Int32) (V : xV) : Option (Int32 × xV) := (if ¬ s0 = 0 then k6 s0 v2 (v3 + 1) (x2 V 46 5 ((V 46 5) + 1)) else some (1, V))
theorem tb_Reader_readEither_73 {L : xL} (k6 : Int32 → Int32 → Int32 → xV → Option (Int32 × xV)) (res : Int32 × xV) (hk6 : ∀ (v1 : Int32) (v2 : Int32) (v3 : Int32) (V : xV), k6 v1 v2 v3 V = some res → X M_Reader_readEither (xRm (25) M_Reader_readEither) (xZ M_Reader_readEither (fun o h' => o = some (.int res.1) ∧ h' = (SH, res.2, L))) SH V L 0 0 6 [(0, .ref 46), (1, .int v1), (2, .int v2), (3, .int v3)] []) (v2 : Int32) (v3 : Int32) (s0 : Int32) (V : xV) (h : b_Reader_readEither_73 k6 v2 v3 s0 V = some res) : X M_Reader_readEither (xRm (25) M_Reader_readEither) (xZ M_Reader_readEither (fun o h' => o = some (.int res.1) ∧ h' = (SH, res.2, L))) SH V L 0 0 73 [(0, .ref 46), (2, .int v2), (3, .int v3)] [.int s0] := by
  unfold b_Reader_readEither_73 at h
  refine x_istore_n [(1, .int s0), (0, .ref 46), (2, .int v2), (3, .int v3)] d_Reader_readEither_73 rfl (Nat.le_of_ble_eq_true rfl) rfl ?_
  refine x_iload_n 0 d_Reader_readEither_74 rfl rfl ?_
  refine x_if_ne 80 d_Reader_readEither_75 (by decide) (fun c19 => ?_) (fun c19 => ?_)
  · replace h := xpos c19 h
    refine x_aload_n 1 d_Reader_readEither_80 rfl rfl ?_
    refine x_dup d_Reader_readEither_81 rfl ?_
    refine x_getI f_Reader_38 sh_46 rfl d_Reader_readEither_82 ?_
    refine x_iconst 1 d_Reader_readEither_85 (by decide) ?_
    refine x_iadd d_Reader_readEither_86 ?_
    refine x_putI f_Reader_38 sh_46 rfl rfl rfl d_Reader_readEither_87 ?_
    refine x_iinc 3 1 [(3, .int (v3 + 1)), (1, .int s0), (0, .ref 46), (2, .int v2)] d_Reader_readEither_90 rfl (by decide) (Nat.le_of_ble_eq_true rfl) rfl ?_
    refine x_goto 6 d_Reader_readEither_93 (by decide) ?_
    refine x_pick [2, 1, 3, 0] rfl ?_
    exact hk6 s0 v2 (v3 + 1) (x2 V 46 5 ((V 46 5) + 1)) h
  · replace h := xneg c19 h
    refine x_iconst 1 d_Reader_readEither_78 (by decide) ?_
    obtain rfl := Option.some.inj h
    exact x_zreturn rfl rfl d_Reader_readEither_79 (Nat.le_refl _) (Nat.le_refl _) ⟨rfl, rfl⟩
def b_Reader_readEither_47 (k6 : Int32 → Int32 → Int32 → xV → Option (Int32 × xV)) (v1 : Int32) (v3 : Int32) (s0 : Int32) (V : xV) : Option (Int32 × xV) := (if ¬ s0 = 0 then k6 v1 s0 (v3 + 1) (x2 V 46 5 ((V 46 5) + 1)) else (Option.bind (f_Reader_emitIf v1 (-7) V) fun p14 => (Option.bind (f_Reader_kind p14) fun p16 => (if ¬ p16 = 6 then b_Reader_readEither_73 k6 s0 v3 0 p14 else b_Reader_readEither_73 k6 s0 v3 1 p14))))
theorem tb_Reader_readEither_47 {L : xL} (k6 : Int32 → Int32 → Int32 → xV → Option (Int32 × xV)) (res : Int32 × xV) (hk6 : ∀ (v1 : Int32) (v2 : Int32) (v3 : Int32) (V : xV), k6 v1 v2 v3 V = some res → X M_Reader_readEither (xRm (25) M_Reader_readEither) (xZ M_Reader_readEither (fun o h' => o = some (.int res.1) ∧ h' = (SH, res.2, L))) SH V L 0 0 6 [(0, .ref 46), (1, .int v1), (2, .int v2), (3, .int v3)] []) (v1 : Int32) (v3 : Int32) (s0 : Int32) (V : xV) (h : b_Reader_readEither_47 k6 v1 v3 s0 V = some res) : X M_Reader_readEither (xRm (25) M_Reader_readEither) (xZ M_Reader_readEither (fun o h' => o = some (.int res.1) ∧ h' = (SH, res.2, L))) SH V L 0 0 47 [(0, .ref 46), (1, .int v1), (3, .int v3)] [.int s0] := by
  unfold b_Reader_readEither_47 at h
  refine x_istore_n [(2, .int s0), (0, .ref 46), (1, .int v1), (3, .int v3)] d_Reader_readEither_47 rfl (Nat.le_of_ble_eq_true rfl) rfl ?_
  refine x_iload_n 0 d_Reader_readEither_48 rfl rfl ?_
  refine x_if_ne 80 d_Reader_readEither_49 (by decide) (fun c13 => ?_) (fun c13 => ?_)
  · replace h := xpos c13 h
    refine x_aload_n 1 d_Reader_readEither_80 rfl rfl ?_
    refine x_dup d_Reader_readEither_81 rfl ?_
    refine x_getI f_Reader_38 sh_46 rfl d_Reader_readEither_82 ?_
    refine x_iconst 1 d_Reader_readEither_85 (by decide) ?_
    refine x_iadd d_Reader_readEither_86 ?_
    refine x_putI f_Reader_38 sh_46 rfl rfl rfl d_Reader_readEither_87 ?_
    refine x_iinc 3 1 [(3, .int (v3 + 1)), (2, .int s0), (0, .ref 46), (1, .int v1)] d_Reader_readEither_90 rfl (by decide) (Nat.le_of_ble_eq_true rfl) rfl ?_
    refine x_goto 6 d_Reader_readEither_93 (by decide) ?_
    refine x_pick [2, 3, 1, 0] rfl ?_
    exact hk6 v1 s0 (v3 + 1) (x2 V 46 5 ((V 46 5) + 1)) h
  · replace h := xneg c13 h
    refine x_aload_n 1 d_Reader_readEither_52 rfl rfl ?_
    refine x_iload_n 2 d_Reader_readEither_53 rfl rfl ?_
    refine x_bipush (-7) d_Reader_readEither_54 (by decide) ?_
    obtain ⟨p14, e15, h⟩ := xbind h
    refine x_callV0v e_Reader_96 sh_46 rfl (t_Reader_emitIf v1 (-7) V L _ e15) rfl rfl rfl (Nat.le_of_ble_eq_true rfl) (xfit_of (by omega) (Nat.le_of_ble_eq_true rfl)) (Nat.zero_le _) (Nat.zero_le _) d_Reader_readEither_56 ?_
    refine x_aload_n 1 d_Reader_readEither_59 rfl rfl ?_
    obtain ⟨p16, e17, h⟩ := xbind h
    refine x_callV0 e_Reader_48 sh_46 rfl (t_Reader_kind p14 L _ e17) rfl rfl rfl (Nat.le_of_ble_eq_true rfl) (xfit_of (by omega) (Nat.le_of_ble_eq_true rfl)) (Nat.zero_le _) (Nat.zero_le _) d_Reader_readEither_60 ?_
    refine x_bipush 6 d_Reader_readEither_63 (by decide) ?_
    refine x_icmp_ne 72 d_Reader_readEither_65 (by decide) (fun c18 => ?_) (fun c18 => ?_)
    · replace h := xpos c18 h
      refine x_iconst 0 d_Reader_readEither_72 (by decide) ?_
      refine x_pick [1, 0, 3] rfl ?_
      exact tb_Reader_readEither_73 (L := L) k6 res hk6 s0 v3 0 p14 h
    · replace h := xneg c18 h
      refine x_iconst 1 d_Reader_readEither_68 (by decide) ?_
      refine x_goto 73 d_Reader_readEither_69 (by decide) ?_
      refine x_pick [1, 0, 3] rfl ?_
      exact tb_Reader_readEither_73 (L := L) k6 res hk6 s0 v3 1 p14 h
def b_Reader_readEither_6 (k6 : Int32 → Int32 → Int32 → xV → Option (Int32 × xV)) (v1 : Int32) (v2 : Int32) (v3 : Int32) (V : xV) : Option (Int32 × xV) := (if (V 47 3) ≤ v3 then (Option.bind (f_Reader_wrong 1 V) fun p2 => (if p2.1 = 0 ∨ p2.1 = 1 then some (p2.1, p2.2) else none)) else (Option.bind (f_Reader_readAsk V) fun p5 => (if ¬ p5.1 = 0 then (Option.bind (f_Reader_emitIf v2 (-8) p5.2) fun p8 => (Option.bind (f_Reader_kind p8) fun p10 => (if ¬ p10 = 7 then b_Reader_readEither_47 k6 v1 v3 0 p8 else b_Reader_readEither_47 k6 v1 v3 1 p8))) else some (0, p5.2))))
theorem tb_Reader_readEither_6 {L : xL} (k6 : Int32 → Int32 → Int32 → xV → Option (Int32 × xV)) (res : Int32 × xV) (hk6 : ∀ (v1 : Int32) (v2 : Int32) (v3 : Int32) (V : xV), k6 v1 v2 v3 V = some res → X M_Reader_readEither (xRm (25) M_Reader_readEither) (xZ M_Reader_readEither (fun o h' => o = some (.int res.1) ∧ h' = (SH, res.2, L))) SH V L 0 0 6 [(0, .ref 46), (1, .int v1), (2, .int v2), (3, .int v3)] []) (v1 : Int32) (v2 : Int32) (v3 : Int32) (V : xV) (h : b_Reader_readEither_6 k6 v1 v2 v3 V = some res) : X M_Reader_readEither (xRm (25) M_Reader_readEither) (xZ M_Reader_readEither (fun o h' => o = some (.int res.1) ∧ h' = (SH, res.2, L))) SH V L 0 0 6 [(0, .ref 46), (1, .int v1), (2, .int v2), (3, .int v3)] [] := by
  unfold b_Reader_readEither_6 at h
  refine x_iload_n 3 d_Reader_readEither_6 rfl rfl ?_
  refine x_aload_n 0 d_Reader_readEither_7 rfl rfl ?_
  refine x_getP (q := 47) f_Reader_18 sh_46 rfl d_Reader_readEither_8 ?_
  refine x_getI f_Reader_45 sh_47 rfl d_Reader_readEither_11 ?_
  refine x_icmp_ge 96 d_Reader_readEither_14 (by decide) (fun c1 => ?_) (fun c1 => ?_)
  · replace h := xpos c1 h
    refine x_aload_n 0 d_Reader_readEither_96 rfl rfl ?_
    refine x_iconst 1 d_Reader_readEither_97 (by decide) ?_
    obtain ⟨p2, e3, h⟩ := xbind h
    refine x_callV0 e_Reader_73 sh_46 rfl (t_Reader_wrong 1 V L _ e3) rfl rfl rfl (Nat.le_of_ble_eq_true rfl) (xfit_of (by omega) (Nat.le_of_ble_eq_true rfl)) (Nat.zero_le _) (Nat.zero_le _) d_Reader_readEither_98 ?_
    obtain ⟨c4, h⟩ := xguard h
    obtain rfl := Option.some.inj h
    exact x_zreturn rfl (xnz c4) d_Reader_readEither_101 (Nat.le_refl _) (Nat.le_refl _) ⟨rfl, rfl⟩
  · replace h := xneg c1 h
    refine x_aload_n 0 d_Reader_readEither_17 rfl rfl ?_
    obtain ⟨p5, e6, h⟩ := xbind h
    refine x_callV0 e_Reader_93 sh_46 rfl (t_Reader_readAsk V L _ e6) rfl rfl rfl (Nat.le_of_ble_eq_true rfl) (xfit_of (by omega) (Nat.le_of_ble_eq_true rfl)) (Nat.zero_le _) (Nat.zero_le _) d_Reader_readEither_18 ?_
    refine x_if_ne 26 d_Reader_readEither_21 (by decide) (fun c7 => ?_) (fun c7 => ?_)
    · replace h := xpos c7 h
      refine x_aload_n 0 d_Reader_readEither_26 rfl rfl ?_
      refine x_iload_n 2 d_Reader_readEither_27 rfl rfl ?_
      refine x_bipush (-8) d_Reader_readEither_28 (by decide) ?_
      obtain ⟨p8, e9, h⟩ := xbind h
      refine x_callV0v e_Reader_96 sh_46 rfl (t_Reader_emitIf v2 (-8) p5.2 L _ e9) rfl rfl rfl (Nat.le_of_ble_eq_true rfl) (xfit_of (by omega) (Nat.le_of_ble_eq_true rfl)) (Nat.zero_le _) (Nat.zero_le _) d_Reader_readEither_30 ?_
      refine x_aload_n 0 d_Reader_readEither_33 rfl rfl ?_
      obtain ⟨p10, e11, h⟩ := xbind h
      refine x_callV0 e_Reader_48 sh_46 rfl (t_Reader_kind p8 L _ e11) rfl rfl rfl (Nat.le_of_ble_eq_true rfl) (xfit_of (by omega) (Nat.le_of_ble_eq_true rfl)) (Nat.zero_le _) (Nat.zero_le _) d_Reader_readEither_34 ?_
      refine x_bipush 7 d_Reader_readEither_37 (by decide) ?_
      refine x_icmp_ne 46 d_Reader_readEither_39 (by decide) (fun c12 => ?_) (fun c12 => ?_)
      · replace h := xpos c12 h
        refine x_iconst 0 d_Reader_readEither_46 (by decide) ?_
        refine x_pick [0, 1, 3] rfl ?_
        exact tb_Reader_readEither_47 (L := L) k6 res hk6 v1 v3 0 p8 h
      · replace h := xneg c12 h
        refine x_iconst 1 d_Reader_readEither_42 (by decide) ?_
        refine x_goto 47 d_Reader_readEither_43 (by decide) ?_
        refine x_pick [0, 1, 3] rfl ?_
        exact tb_Reader_readEither_47 (L := L) k6 res hk6 v1 v3 1 p8 h
    · replace h := xneg c7 h
      refine x_iconst 0 d_Reader_readEither_24 (by decide) ?_
      obtain rfl := Option.some.inj h
      exact x_zreturn rfl rfl d_Reader_readEither_25 (Nat.le_refl _) (Nat.le_refl _) ⟨rfl, rfl⟩
def g_Reader_readEither_6  : Nat → Int32 → Int32 → Int32 → xV → Option (Int32 × xV)
  | 0, _, _, _, _ => none
  | n + 1, v1, v2, v3, V => b_Reader_readEither_6 (g_Reader_readEither_6  n) v1 v2 v3 V
theorem tg_Reader_readEither_6 {L : xL} (res : Int32 × xV)  : ∀ (n : Nat) (v1 : Int32) (v2 : Int32) (v3 : Int32) (V : xV), g_Reader_readEither_6  n v1 v2 v3 V = some res → X M_Reader_readEither (xRm (25) M_Reader_readEither) (xZ M_Reader_readEither (fun o h' => o = some (.int res.1) ∧ h' = (SH, res.2, L))) SH V L 0 0 6 [(0, .ref 46), (1, .int v1), (2, .int v2), (3, .int v3)] []
  | 0, _, _, _, _, h => by cases h
  | n + 1, v1, v2, v3, V, h => tb_Reader_readEither_6 (L := L) (g_Reader_readEither_6  n) res (tg_Reader_readEither_6 (L := L) res n) v1 v2 v3 V h
def f_Reader_readEither (V : xV) : Option (Int32 × xV) := g_Reader_readEither_6 2000 0 0 0 V
theorem t_Reader_readEither  (V : xV) (L : xL) (res : Int32 × xV) (h : f_Reader_readEither V = some res) : xRuns (25) M_Reader_readEither [.ref 46] (SH, V, L) (fun o h' => o = some (.int res.1) ∧ h' = (SH, res.2, L)) := by
  refine xRuns_of (by decide) (Nat.le_of_ble_eq_true rfl) ?_
  unfold f_Reader_readEither at h
  show X M_Reader_readEither (xRm (25) M_Reader_readEither) (xZ M_Reader_readEither (fun o h' => o = some (.int res.1) ∧ h' = (SH, res.2, L))) SH V L 0 0 0 [(0, .ref 46)] []
  refine x_iconst 0 d_Reader_readEither_0 (by decide) ?_
  refine x_istore_n [(1, .int 0), (0, .ref 46)] d_Reader_readEither_1 rfl (Nat.le_of_ble_eq_true rfl) rfl ?_
  refine x_iconst 0 d_Reader_readEither_2 (by decide) ?_
  refine x_istore_n [(2, .int 0), (1, .int 0), (0, .ref 46)] d_Reader_readEither_3 rfl (Nat.le_of_ble_eq_true rfl) rfl ?_
  refine x_iconst 0 d_Reader_readEither_4 (by decide) ?_
  refine x_istore_n [(3, .int 0), (2, .int 0), (1, .int 0), (0, .ref 46)] d_Reader_readEither_5 rfl (Nat.le_of_ble_eq_true rfl) rfl ?_
  refine x_pick [3, 2, 1, 0] rfl ?_
  exact tg_Reader_readEither_6 (L := L) res _ 0 0 0 V h
-- Law_enter
def f_Law_enter (q0 : Nat) (a1 : Int32) (a2 : Int32) (V : xV) : Option (xV) := (if (f_Ww_within a1 6) = 0 then some V else (if (f_Ww_within (V q0 4) 6) = 0 then some V else (if xI a1 6 = true then (if xI a1 6 = true then (if xI ((x2 (x2 V (q0 + 2) a1.toNatClampNeg a2) (q0 + 3) a1.toNatClampNeg ((x2 V (q0 + 2) a1.toNatClampNeg a2) q0 5)) q0 4) 6 = true then some (x2 (x2 (x2 (x2 V (q0 + 2) a1.toNatClampNeg a2) (q0 + 3) a1.toNatClampNeg ((x2 V (q0 + 2) a1.toNatClampNeg a2) q0 5)) (q0 + 4) (((x2 (x2 V (q0 + 2) a1.toNatClampNeg a2) (q0 + 3) a1.toNatClampNeg ((x2 V (q0 + 2) a1.toNatClampNeg a2) q0 5)) q0 4).toNatClampNeg) a1) q0 4 (((x2 (x2 (x2 V (q0 + 2) a1.toNatClampNeg a2) (q0 + 3) a1.toNatClampNeg ((x2 V (q0 + 2) a1.toNatClampNeg a2) q0 5)) (q0 + 4) (((x2 (x2 V (q0 + 2) a1.toNatClampNeg a2) (q0 + 3) a1.toNatClampNeg ((x2 V (q0 + 2) a1.toNatClampNeg a2) q0 5)) q0 4).toNatClampNeg) a1) q0 4) + 1)) else none) else none) else none)))
theorem t_Law_enter (q0 : Nat) (a1 : Int32) (a2 : Int32) (hq0 : lawB q0 = true) (V : xV) (L : xL) (res : xV) (h : f_Law_enter q0 a1 a2 V = some res) : xRuns (2) M_Law_enter [.ref q0, .int a1, .int a2] (SH, V, L) (fun o h' => o = none ∧ h' = (SH, res, L)) := by
  refine xRuns_of (by decide) (Nat.le_of_ble_eq_true rfl) ?_
  unfold f_Law_enter at h
  show X M_Law_enter (xRm (2) M_Law_enter) (xZ M_Law_enter (fun o h' => o = none ∧ h' = (SH, res, L))) SH V L 0 0 0 [(0, .ref q0), (1, .int a1), (2, .int a2)] []
  refine x_iload_n 1 d_Law_enter_0 rfl rfl ?_
  refine x_bipush 6 d_Law_enter_1 (by decide) ?_
  refine x_callSN0 e_Law_37 (t_Ww_within a1 6 V L _ rfl) rfl rfl rfl (Nat.le_of_ble_eq_true rfl) (xfit_of (by omega) (Nat.le_of_ble_eq_true rfl)) (Nat.zero_le _) (Nat.zero_le _) d_Law_enter_3 ?_
  refine x_if_eq 58 d_Law_enter_6 (by decide) (fun c2 => ?_) (fun c2 => ?_)
  · replace h := xpos c2 h
    obtain rfl := Option.some.inj h
    exact x_return rfl d_Law_enter_58 (Nat.le_refl _) (Nat.le_refl _) ⟨rfl, rfl⟩
  · replace h := xneg c2 h
    refine x_aload_n 0 d_Law_enter_9 rfl rfl ?_
    refine x_getI f_Law_30 (sh_law hq0) rfl d_Law_enter_10 ?_
    refine x_bipush 6 d_Law_enter_13 (by decide) ?_
    refine x_callSN0 e_Law_37 (t_Ww_within (V q0 4) 6 V L _ rfl) rfl rfl rfl (Nat.le_of_ble_eq_true rfl) (xfit_of (by omega) (Nat.le_of_ble_eq_true rfl)) (Nat.zero_le _) (Nat.zero_le _) d_Law_enter_15 ?_
    refine x_if_eq 58 d_Law_enter_18 (by decide) (fun c4 => ?_) (fun c4 => ?_)
    · replace h := xpos c4 h
      obtain rfl := Option.some.inj h
      exact x_return rfl d_Law_enter_58 (Nat.le_refl _) (Nat.le_refl _) ⟨rfl, rfl⟩
    · replace h := xneg c4 h
      refine x_aload_n 0 d_Law_enter_21 rfl rfl ?_
      refine x_getP (q := q0 + 2) f_Law_15 (sh_law hq0) rfl d_Law_enter_22 ?_
      refine x_iload_n 1 d_Law_enter_25 rfl rfl ?_
      refine x_iload_n 2 d_Law_enter_26 rfl rfl ?_
      obtain ⟨c5, h⟩ := xguard h
      refine x_iastore (sh_law2 hq0) c5 d_Law_enter_27 ?_
      refine x_aload_n 0 d_Law_enter_28 rfl rfl ?_
      refine x_getP (q := q0 + 3) f_Law_18 (sh_law hq0) rfl d_Law_enter_29 ?_
      refine x_iload_n 1 d_Law_enter_32 rfl rfl ?_
      refine x_aload_n 0 d_Law_enter_33 rfl rfl ?_
      refine x_getI f_Law_34 (sh_law hq0) rfl d_Law_enter_34 ?_
      obtain ⟨c6, h⟩ := xguard h
      refine x_iastore (sh_law3 hq0) c6 d_Law_enter_37 ?_
      refine x_aload_n 0 d_Law_enter_38 rfl rfl ?_
      refine x_getP (q := q0 + 4) f_Law_21 (sh_law hq0) rfl d_Law_enter_39 ?_
      refine x_aload_n 0 d_Law_enter_42 rfl rfl ?_
      refine x_getI f_Law_30 (sh_law hq0) rfl d_Law_enter_43 ?_
      refine x_iload_n 1 d_Law_enter_46 rfl rfl ?_
      obtain ⟨c7, h⟩ := xguard h
      refine x_iastore (sh_law4 hq0) c7 d_Law_enter_47 ?_
      refine x_aload_n 0 d_Law_enter_48 rfl rfl ?_
      refine x_dup d_Law_enter_49 rfl ?_
      refine x_getI f_Law_30 (sh_law hq0) rfl d_Law_enter_50 ?_
      refine x_iconst 1 d_Law_enter_53 (by decide) ?_
      refine x_iadd d_Law_enter_54 ?_
      refine x_putI f_Law_30 (sh_law hq0) rfl rfl rfl d_Law_enter_55 ?_
      obtain rfl := Option.some.inj h
      exact x_return rfl d_Law_enter_58 (Nat.le_refl _) (Nat.le_refl _) ⟨rfl, rfl⟩
-- Reader_readClause
def b_Reader_readClause_118 (v1 : Int32) (V : xV) : Option (Int32 × xV) := (Option.bind (f_Reader_kind V) fun p26 => (if p26 = 34 then (if lawB ((x2 V 46 5 ((V 46 5) + 1)) 46 4).toNatClampNeg = true then (Option.bind (f_Law_enter (((x2 V 46 5 ((V 46 5) + 1)) 46 4).toNatClampNeg) ((x2 V 46 5 ((V 46 5) + 1)) 46 6) v1 (x2 V 46 5 ((V 46 5) + 1))) fun p30 => some (1, p30)) else none) else (Option.bind (f_Reader_wrong 1 V) fun p32 => (if p32.1 = 0 ∨ p32.1 = 1 then some (p32.1, p32.2) else none))))
theorem tb_Reader_readClause_118 {L : xL} (res : Int32 × xV)  (v1 : Int32) (V : xV) (h : b_Reader_readClause_118 v1 V = some res) : X M_Reader_readClause (xRm (26) M_Reader_readClause) (xZ M_Reader_readClause (fun o h' => o = some (.int res.1) ∧ h' = (SH, res.2, L))) SH V L 0 0 118 [(0, .ref 46), (1, .int v1)] [] := by
  unfold b_Reader_readClause_118 at h
  refine x_aload_n 0 d_Reader_readClause_118 rfl rfl ?_
  obtain ⟨p26, e27, h⟩ := xbind h
  refine x_callV0 e_Reader_48 sh_46 rfl (t_Reader_kind V L _ e27) rfl rfl rfl (Nat.le_of_ble_eq_true rfl) (xfit_of (by omega) (Nat.le_of_ble_eq_true rfl)) (Nat.zero_le _) (Nat.zero_le _) d_Reader_readClause_119 ?_
  refine x_bipush 34 d_Reader_readClause_122 (by decide) ?_
  refine x_icmp_eq 133 d_Reader_readClause_124 (by decide) (fun c28 => ?_) (fun c28 => ?_)
  · replace h := xpos c28 h
    refine x_aload_n 0 d_Reader_readClause_133 rfl rfl ?_
    refine x_dup d_Reader_readClause_134 rfl ?_
    refine x_getI f_Reader_38 sh_46 rfl d_Reader_readClause_135 ?_
    refine x_iconst 1 d_Reader_readClause_138 (by decide) ?_
    refine x_iadd d_Reader_readClause_139 ?_
    refine x_putI f_Reader_38 sh_46 rfl rfl rfl d_Reader_readClause_140 ?_
    refine x_aload_n 0 d_Reader_readClause_143 rfl rfl ?_
    obtain ⟨c29, h⟩ := xguard h
    refine x_getU f_Reader_22 sh_46 rfl d_Reader_readClause_144 ?_
    refine x_aload_n 0 d_Reader_readClause_147 rfl rfl ?_
    refine x_getI f_Reader_66 sh_46 rfl d_Reader_readClause_148 ?_
    refine x_iload_n 1 d_Reader_readClause_151 rfl rfl ?_
    obtain ⟨p30, e31, h⟩ := xbind h
    refine x_callV0v e_Reader_89 (sh_law c29) rfl (t_Law_enter (((x2 V 46 5 ((V 46 5) + 1)) 46 4).toNatClampNeg) ((x2 V 46 5 ((V 46 5) + 1)) 46 6) v1 c29 (x2 V 46 5 ((V 46 5) + 1)) L _ e31) rfl rfl rfl (Nat.le_of_ble_eq_true rfl) (xfit_of (by omega) (Nat.le_of_ble_eq_true rfl)) (Nat.zero_le _) (Nat.zero_le _) d_Reader_readClause_152 ?_
    refine x_iconst 1 d_Reader_readClause_155 (by decide) ?_
    obtain rfl := Option.some.inj h
    exact x_zreturn rfl rfl d_Reader_readClause_156 (Nat.le_refl _) (Nat.le_refl _) ⟨rfl, rfl⟩
  · replace h := xneg c28 h
    refine x_aload_n 0 d_Reader_readClause_127 rfl rfl ?_
    refine x_iconst 1 d_Reader_readClause_128 (by decide) ?_
    obtain ⟨p32, e33, h⟩ := xbind h
    refine x_callV0 e_Reader_73 sh_46 rfl (t_Reader_wrong 1 V L _ e33) rfl rfl rfl (Nat.le_of_ble_eq_true rfl) (xfit_of (by omega) (Nat.le_of_ble_eq_true rfl)) (Nat.zero_le _) (Nat.zero_le _) d_Reader_readClause_129 ?_
    obtain ⟨c34, h⟩ := xguard h
    obtain rfl := Option.some.inj h
    exact x_zreturn rfl (xnz c34) d_Reader_readClause_132 (Nat.le_refl _) (Nat.le_refl _) ⟨rfl, rfl⟩
def b_Reader_readClause_93 (v1 : Int32) (s0 : Int32) (V : xV) : Option (Int32 × xV) := (if s0 = 0 then (Option.bind (f_Reader_readEither V) fun p20 => (if ¬ p20.1 = 0 then b_Reader_readClause_118 v1 p20.2 else some (0, p20.2))) else (Option.bind (f_Reader_readSum 9 0 V) fun p23 => (if ¬ p23.1 = 0 then b_Reader_readClause_118 v1 p23.2 else some (0, p23.2))))
theorem tb_Reader_readClause_93 {L : xL} (res : Int32 × xV)  (v1 : Int32) (s0 : Int32) (V : xV) (h : b_Reader_readClause_93 v1 s0 V = some res) : X M_Reader_readClause (xRm (26) M_Reader_readClause) (xZ M_Reader_readClause (fun o h' => o = some (.int res.1) ∧ h' = (SH, res.2, L))) SH V L 0 0 93 [(0, .ref 46), (1, .int v1)] [.int s0] := by
  unfold b_Reader_readClause_93 at h
  refine x_istore_n [(2, .int s0), (0, .ref 46), (1, .int v1)] d_Reader_readClause_93 rfl (Nat.le_of_ble_eq_true rfl) rfl ?_
  refine x_iload_n 0 d_Reader_readClause_94 rfl rfl ?_
  refine x_if_eq 109 d_Reader_readClause_95 (by decide) (fun c19 => ?_) (fun c19 => ?_)
  · replace h := xpos c19 h
    refine x_aload_n 1 d_Reader_readClause_109 rfl rfl ?_
    obtain ⟨p20, e21, h⟩ := xbind h
    refine x_callV0 e_Reader_86 sh_46 rfl (t_Reader_readEither V L _ e21) rfl rfl rfl (Nat.le_of_ble_eq_true rfl) (xfit_of (by omega) (Nat.le_of_ble_eq_true rfl)) (Nat.zero_le _) (Nat.zero_le _) d_Reader_readClause_110 ?_
    refine x_if_ne 118 d_Reader_readClause_113 (by decide) (fun c22 => ?_) (fun c22 => ?_)
    · replace h := xpos c22 h
      refine x_pick [1, 2] rfl ?_
      exact tb_Reader_readClause_118 (L := L) res v1 p20.2 h
    · replace h := xneg c22 h
      refine x_iconst 0 d_Reader_readClause_116 (by decide) ?_
      obtain rfl := Option.some.inj h
      exact x_zreturn rfl rfl d_Reader_readClause_117 (Nat.le_refl _) (Nat.le_refl _) ⟨rfl, rfl⟩
  · replace h := xneg c19 h
    refine x_aload_n 1 d_Reader_readClause_98 rfl rfl ?_
    refine x_iconst 0 d_Reader_readClause_99 (by decide) ?_
    obtain ⟨p23, e24, h⟩ := xbind h
    refine x_callV0 e_Reader_83 sh_46 rfl (t_Reader_readSum 9 0 V L _ e24) rfl rfl rfl (Nat.le_of_ble_eq_true rfl) (xfit_of (by omega) (Nat.le_of_ble_eq_true rfl)) (Nat.zero_le _) (Nat.zero_le _) d_Reader_readClause_100 ?_
    refine x_if_ne 118 d_Reader_readClause_103 (by decide) (fun c25 => ?_) (fun c25 => ?_)
    · replace h := xpos c25 h
      refine x_pick [1, 2] rfl ?_
      exact tb_Reader_readClause_118 (L := L) res v1 p23.2 h
    · replace h := xneg c25 h
      refine x_goto 116 d_Reader_readClause_106 (by decide) ?_
      refine x_iconst 0 d_Reader_readClause_116 (by decide) ?_
      obtain rfl := Option.some.inj h
      exact x_zreturn rfl rfl d_Reader_readClause_117 (Nat.le_refl _) (Nat.le_refl _) ⟨rfl, rfl⟩
def f_Reader_readClause (V : xV) : Option (Int32 × xV) := (Option.bind (f_Reader_kind V) fun p1 => (if ¬ (f_Ww_within ((x2 V 46 6 p1) 46 6) 6) = 0 then (if lawB ((x2 V 46 6 p1) 46 4).toNatClampNeg = true then (Option.bind (f_Law_has (((x2 V 46 6 p1) 46 4).toNatClampNeg) ((x2 V 46 6 p1) 46 6) (x2 V 46 6 p1)) fun p6 => (if p6 = 0 then (if lawB ((x2 (x2 V 46 6 p1) 46 5 (((x2 V 46 6 p1) 46 5) + 1)) 46 4).toNatClampNeg = true then (if ((x2 (x2 V 46 6 p1) 46 5 (((x2 V 46 6 p1) 46 5) + 1)) 46 6) = 2 then b_Reader_readClause_93 ((x2 (x2 V 46 6 p1) 46 5 (((x2 V 46 6 p1) 46 5) + 1)) (((x2 (x2 V 46 6 p1) 46 5 (((x2 V 46 6 p1) 46 5) + 1)) 46 4).toNatClampNeg) 5) 1 (x2 (x2 V 46 6 p1) 46 5 (((x2 V 46 6 p1) 46 5) + 1)) else (if ((x2 (x2 V 46 6 p1) 46 5 (((x2 V 46 6 p1) 46 5) + 1)) 46 6) = 3 then b_Reader_readClause_93 ((x2 (x2 V 46 6 p1) 46 5 (((x2 V 46 6 p1) 46 5) + 1)) (((x2 (x2 V 46 6 p1) 46 5 (((x2 V 46 6 p1) 46 5) + 1)) 46 4).toNatClampNeg) 5) 1 (x2 (x2 V 46 6 p1) 46 5 (((x2 V 46 6 p1) 46 5) + 1)) else (if ¬ ((x2 (x2 V 46 6 p1) 46 5 (((x2 V 46 6 p1) 46 5) + 1)) 46 6) = 5 then b_Reader_readClause_93 ((x2 (x2 V 46 6 p1) 46 5 (((x2 V 46 6 p1) 46 5) + 1)) (((x2 (x2 V 46 6 p1) 46 5 (((x2 V 46 6 p1) 46 5) + 1)) 46 4).toNatClampNeg) 5) 0 (x2 (x2 V 46 6 p1) 46 5 (((x2 V 46 6 p1) 46 5) + 1)) else b_Reader_readClause_93 ((x2 (x2 V 46 6 p1) 46 5 (((x2 V 46 6 p1) 46 5) + 1)) (((x2 (x2 V 46 6 p1) 46 5 (((x2 V 46 6 p1) 46 5) + 1)) 46 4).toNatClampNeg) 5) 1 (x2 (x2 V 46 6 p1) 46 5 (((x2 V 46 6 p1) 46 5) + 1))))) else none) else (Option.bind (f_Reader_wrong 4 (x2 V 46 6 p1)) fun p13 => (if p13.1 = 0 ∨ p13.1 = 1 then some (p13.1, p13.2) else none)))) else none) else (Option.bind (f_Reader_wrong 1 (x2 V 46 6 p1)) fun p16 => (if p16.1 = 0 ∨ p16.1 = 1 then some (p16.1, p16.2) else none))))
theorem t_Reader_readClause  (V : xV) (L : xL) (res : Int32 × xV) (h : f_Reader_readClause V = some res) : xRuns (26) M_Reader_readClause [.ref 46] (SH, V, L) (fun o h' => o = some (.int res.1) ∧ h' = (SH, res.2, L)) := by
  refine xRuns_of (by decide) (Nat.le_of_ble_eq_true rfl) ?_
  unfold f_Reader_readClause at h
  show X M_Reader_readClause (xRm (26) M_Reader_readClause) (xZ M_Reader_readClause (fun o h' => o = some (.int res.1) ∧ h' = (SH, res.2, L))) SH V L 0 0 0 [(0, .ref 46)] []
  refine x_aload_n 0 d_Reader_readClause_0 rfl rfl ?_
  refine x_aload_n 0 d_Reader_readClause_1 rfl rfl ?_
  obtain ⟨p1, e2, h⟩ := xbind h
  refine x_callV0 e_Reader_48 sh_46 rfl (t_Reader_kind V L _ e2) rfl rfl rfl (Nat.le_of_ble_eq_true rfl) (xfit_of (by omega) (Nat.le_of_ble_eq_true rfl)) (Nat.zero_le _) (Nat.zero_le _) d_Reader_readClause_2 ?_
  refine x_putI f_Reader_66 sh_46 rfl rfl rfl d_Reader_readClause_5 ?_
  refine x_aload_n 0 d_Reader_readClause_8 rfl rfl ?_
  refine x_getI f_Reader_66 sh_46 rfl d_Reader_readClause_9 ?_
  refine x_bipush 6 d_Reader_readClause_12 (by decide) ?_
  refine x_callSN0 e_Reader_69 (t_Ww_within ((x2 V 46 6 p1) 46 6) 6 (x2 V 46 6 p1) L _ rfl) rfl rfl rfl (Nat.le_of_ble_eq_true rfl) (xfit_of (by omega) (Nat.le_of_ble_eq_true rfl)) (Nat.zero_le _) (Nat.zero_le _) d_Reader_readClause_14 ?_
  refine x_if_ne 26 d_Reader_readClause_17 (by decide) (fun c4 => ?_) (fun c4 => ?_)
  · replace h := xpos c4 h
    refine x_aload_n 0 d_Reader_readClause_26 rfl rfl ?_
    obtain ⟨c5, h⟩ := xguard h
    refine x_getU f_Reader_22 sh_46 rfl d_Reader_readClause_27 ?_
    refine x_aload_n 0 d_Reader_readClause_30 rfl rfl ?_
    refine x_getI f_Reader_66 sh_46 rfl d_Reader_readClause_31 ?_
    obtain ⟨p6, e7, h⟩ := xbind h
    refine x_callV0 e_Reader_77 (sh_law c5) rfl (t_Law_has (((x2 V 46 6 p1) 46 4).toNatClampNeg) ((x2 V 46 6 p1) 46 6) c5 (x2 V 46 6 p1) L _ e7) rfl rfl rfl (Nat.le_of_ble_eq_true rfl) (xfit_of (by omega) (Nat.le_of_ble_eq_true rfl)) (Nat.zero_le _) (Nat.zero_le _) d_Reader_readClause_34 ?_
    refine x_if_eq 46 d_Reader_readClause_37 (by decide) (fun c8 => ?_) (fun c8 => ?_)
    · replace h := xpos c8 h
      refine x_aload_n 0 d_Reader_readClause_46 rfl rfl ?_
      refine x_dup d_Reader_readClause_47 rfl ?_
      refine x_getI f_Reader_38 sh_46 rfl d_Reader_readClause_48 ?_
      refine x_iconst 1 d_Reader_readClause_51 (by decide) ?_
      refine x_iadd d_Reader_readClause_52 ?_
      refine x_putI f_Reader_38 sh_46 rfl rfl rfl d_Reader_readClause_53 ?_
      refine x_aload_n 0 d_Reader_readClause_56 rfl rfl ?_
      obtain ⟨c9, h⟩ := xguard h
      refine x_getU f_Reader_22 sh_46 rfl d_Reader_readClause_57 ?_
      refine x_getI f_Reader_80 (sh_law c9) rfl d_Reader_readClause_60 ?_
      refine x_istore_n [(1, .int ((x2 (x2 V 46 6 p1) 46 5 (((x2 V 46 6 p1) 46 5) + 1)) (((x2 (x2 V 46 6 p1) 46 5 (((x2 V 46 6 p1) 46 5) + 1)) 46 4).toNatClampNeg) 5)), (0, .ref 46)] d_Reader_readClause_63 rfl (Nat.le_of_ble_eq_true rfl) rfl ?_
      refine x_aload_n 1 d_Reader_readClause_64 rfl rfl ?_
      refine x_getI f_Reader_66 sh_46 rfl d_Reader_readClause_65 ?_
      refine x_iconst 2 d_Reader_readClause_68 (by decide) ?_
      refine x_icmp_eq 88 d_Reader_readClause_69 (by decide) (fun c10 => ?_) (fun c10 => ?_)
      · replace h := xpos c10 h
        refine x_iconst 1 d_Reader_readClause_88 (by decide) ?_
        refine x_goto 93 d_Reader_readClause_89 (by decide) ?_
        refine x_pick [1, 0] rfl ?_
        exact tb_Reader_readClause_93 (L := L) res ((x2 (x2 V 46 6 p1) 46 5 (((x2 V 46 6 p1) 46 5) + 1)) (((x2 (x2 V 46 6 p1) 46 5 (((x2 V 46 6 p1) 46 5) + 1)) 46 4).toNatClampNeg) 5) 1 (x2 (x2 V 46 6 p1) 46 5 (((x2 V 46 6 p1) 46 5) + 1)) h
      · replace h := xneg c10 h
        refine x_aload_n 1 d_Reader_readClause_72 rfl rfl ?_
        refine x_getI f_Reader_66 sh_46 rfl d_Reader_readClause_73 ?_
        refine x_iconst 3 d_Reader_readClause_76 (by decide) ?_
        refine x_icmp_eq 88 d_Reader_readClause_77 (by decide) (fun c11 => ?_) (fun c11 => ?_)
        · replace h := xpos c11 h
          refine x_iconst 1 d_Reader_readClause_88 (by decide) ?_
          refine x_goto 93 d_Reader_readClause_89 (by decide) ?_
          refine x_pick [1, 0] rfl ?_
          exact tb_Reader_readClause_93 (L := L) res ((x2 (x2 V 46 6 p1) 46 5 (((x2 V 46 6 p1) 46 5) + 1)) (((x2 (x2 V 46 6 p1) 46 5 (((x2 V 46 6 p1) 46 5) + 1)) 46 4).toNatClampNeg) 5) 1 (x2 (x2 V 46 6 p1) 46 5 (((x2 V 46 6 p1) 46 5) + 1)) h
        · replace h := xneg c11 h
          refine x_aload_n 1 d_Reader_readClause_80 rfl rfl ?_
          refine x_getI f_Reader_66 sh_46 rfl d_Reader_readClause_81 ?_
          refine x_iconst 5 d_Reader_readClause_84 (by decide) ?_
          refine x_icmp_ne 92 d_Reader_readClause_85 (by decide) (fun c12 => ?_) (fun c12 => ?_)
          · replace h := xpos c12 h
            refine x_iconst 0 d_Reader_readClause_92 (by decide) ?_
            refine x_pick [1, 0] rfl ?_
            exact tb_Reader_readClause_93 (L := L) res ((x2 (x2 V 46 6 p1) 46 5 (((x2 V 46 6 p1) 46 5) + 1)) (((x2 (x2 V 46 6 p1) 46 5 (((x2 V 46 6 p1) 46 5) + 1)) 46 4).toNatClampNeg) 5) 0 (x2 (x2 V 46 6 p1) 46 5 (((x2 V 46 6 p1) 46 5) + 1)) h
          · replace h := xneg c12 h
            refine x_iconst 1 d_Reader_readClause_88 (by decide) ?_
            refine x_goto 93 d_Reader_readClause_89 (by decide) ?_
            refine x_pick [1, 0] rfl ?_
            exact tb_Reader_readClause_93 (L := L) res ((x2 (x2 V 46 6 p1) 46 5 (((x2 V 46 6 p1) 46 5) + 1)) (((x2 (x2 V 46 6 p1) 46 5 (((x2 V 46 6 p1) 46 5) + 1)) 46 4).toNatClampNeg) 5) 1 (x2 (x2 V 46 6 p1) 46 5 (((x2 V 46 6 p1) 46 5) + 1)) h
    · replace h := xneg c8 h
      refine x_aload_n 0 d_Reader_readClause_40 rfl rfl ?_
      refine x_iconst 4 d_Reader_readClause_41 (by decide) ?_
      obtain ⟨p13, e14, h⟩ := xbind h
      refine x_callV0 e_Reader_73 sh_46 rfl (t_Reader_wrong 4 (x2 V 46 6 p1) L _ e14) rfl rfl rfl (Nat.le_of_ble_eq_true rfl) (xfit_of (by omega) (Nat.le_of_ble_eq_true rfl)) (Nat.zero_le _) (Nat.zero_le _) d_Reader_readClause_42 ?_
      obtain ⟨c15, h⟩ := xguard h
      obtain rfl := Option.some.inj h
      exact x_zreturn rfl (xnz c15) d_Reader_readClause_45 (Nat.le_refl _) (Nat.le_refl _) ⟨rfl, rfl⟩
  · replace h := xneg c4 h
    refine x_aload_n 0 d_Reader_readClause_20 rfl rfl ?_
    refine x_iconst 1 d_Reader_readClause_21 (by decide) ?_
    obtain ⟨p16, e17, h⟩ := xbind h
    refine x_callV0 e_Reader_73 sh_46 rfl (t_Reader_wrong 1 (x2 V 46 6 p1) L _ e17) rfl rfl rfl (Nat.le_of_ble_eq_true rfl) (xfit_of (by omega) (Nat.le_of_ble_eq_true rfl)) (Nat.zero_le _) (Nat.zero_le _) d_Reader_readClause_22 ?_
    obtain ⟨c18, h⟩ := xguard h
    obtain rfl := Option.some.inj h
    exact x_zreturn rfl (xnz c18) d_Reader_readClause_25 (Nat.le_refl _) (Nat.le_refl _) ⟨rfl, rfl⟩
-- Reader_read
def b_Reader_read_42 (q2 : Nat) (k42 : Int32 → xV → Option (Int32 × xV)) (v3 : Int32) (V : xV) : Option (Int32 × xV) := (if (V 47 3) ≤ v3 then some (1, V) else (Option.bind (f_Reader_kind V) fun p6 => (if p6 = 37 then some (1, V) else (Option.bind (f_Reader_readClause V) fun p9 => (if ¬ p9.1 = 0 then k42 (v3 + 1) p9.2 else some (0, p9.2))))))
theorem tb_Reader_read_42 {L : xL} (q2 : Nat) (hq2 : lawB q2 = true) (k42 : Int32 → xV → Option (Int32 × xV)) (res : Int32 × xV) (hk42 : ∀ (v3 : Int32) (V : xV), k42 v3 V = some res → X M_Reader_read (xRm (27) M_Reader_read) (xZ M_Reader_read (fun o h' => o = some (.int res.1) ∧ h' = (SH, res.2, L))) SH V L 0 0 42 [(0, .ref 46), (3, .int v3)] []) (v3 : Int32) (V : xV) (h : b_Reader_read_42 q2 k42 v3 V = some res) : X M_Reader_read (xRm (27) M_Reader_read) (xZ M_Reader_read (fun o h' => o = some (.int res.1) ∧ h' = (SH, res.2, L))) SH V L 0 0 42 [(0, .ref 46), (3, .int v3)] [] := by
  unfold b_Reader_read_42 at h
  refine x_iload_n 1 d_Reader_read_42 rfl rfl ?_
  refine x_aload_n 0 d_Reader_read_43 rfl rfl ?_
  refine x_getP (q := 47) f_Reader_18 sh_46 rfl d_Reader_read_44 ?_
  refine x_getI f_Reader_45 sh_47 rfl d_Reader_read_47 ?_
  refine x_icmp_ge 77 d_Reader_read_50 (by decide) (fun c5 => ?_) (fun c5 => ?_)
  · replace h := xpos c5 h
    refine x_iconst 1 d_Reader_read_77 (by decide) ?_
    obtain rfl := Option.some.inj h
    exact x_zreturn rfl rfl d_Reader_read_78 (Nat.le_refl _) (Nat.le_refl _) ⟨rfl, rfl⟩
  · replace h := xneg c5 h
    refine x_aload_n 0 d_Reader_read_53 rfl rfl ?_
    obtain ⟨p6, e7, h⟩ := xbind h
    refine x_callV0 e_Reader_48 sh_46 rfl (t_Reader_kind V L _ e7) rfl rfl rfl (Nat.le_of_ble_eq_true rfl) (xfit_of (by omega) (Nat.le_of_ble_eq_true rfl)) (Nat.zero_le _) (Nat.zero_le _) d_Reader_read_54 ?_
    refine x_bipush 37 d_Reader_read_57 (by decide) ?_
    refine x_icmp_eq 77 d_Reader_read_59 (by decide) (fun c8 => ?_) (fun c8 => ?_)
    · replace h := xpos c8 h
      refine x_iconst 1 d_Reader_read_77 (by decide) ?_
      obtain rfl := Option.some.inj h
      exact x_zreturn rfl rfl d_Reader_read_78 (Nat.le_refl _) (Nat.le_refl _) ⟨rfl, rfl⟩
    · replace h := xneg c8 h
      refine x_aload_n 0 d_Reader_read_62 rfl rfl ?_
      obtain ⟨p9, e10, h⟩ := xbind h
      refine x_callV0 e_Reader_52 sh_46 rfl (t_Reader_readClause V L _ e10) rfl rfl rfl (Nat.le_of_ble_eq_true rfl) (xfit_of (by omega) (Nat.le_of_ble_eq_true rfl)) (Nat.zero_le _) (Nat.zero_le _) d_Reader_read_63 ?_
      refine x_if_ne 71 d_Reader_read_66 (by decide) (fun c11 => ?_) (fun c11 => ?_)
      · replace h := xpos c11 h
        refine x_iinc 1 1 [(3, .int (v3 + 1)), (0, .ref 46)] d_Reader_read_71 rfl (by decide) (Nat.le_of_ble_eq_true rfl) rfl ?_
        refine x_goto 42 d_Reader_read_74 (by decide) ?_
        refine x_pick [1, 0] rfl ?_
        exact hk42 (v3 + 1) p9.2 h
      · replace h := xneg c11 h
        refine x_iconst 0 d_Reader_read_69 (by decide) ?_
        obtain rfl := Option.some.inj h
        exact x_zreturn rfl rfl d_Reader_read_70 (Nat.le_refl _) (Nat.le_refl _) ⟨rfl, rfl⟩
def g_Reader_read_42 (q2 : Nat) : Nat → Int32 → xV → Option (Int32 × xV)
  | 0, _, _ => none
  | n + 1, v3, V => b_Reader_read_42 q2 (g_Reader_read_42 q2 n) v3 V
theorem tg_Reader_read_42 {L : xL} (q2 : Nat) (hq2 : lawB q2 = true) (res : Int32 × xV)  : ∀ (n : Nat) (v3 : Int32) (V : xV), g_Reader_read_42 q2 n v3 V = some res → X M_Reader_read (xRm (27) M_Reader_read) (xZ M_Reader_read (fun o h' => o = some (.int res.1) ∧ h' = (SH, res.2, L))) SH V L 0 0 42 [(0, .ref 46), (3, .int v3)] []
  | 0, _, _, h => by cases h
  | n + 1, v3, V, h => tb_Reader_read_42 (L := L) q2 hq2 (g_Reader_read_42 q2 n) res (tg_Reader_read_42 (L := L) q2 hq2 res n) v3 V h
def f_Reader_read (q2 : Nat) (V : xV) : Option (Int32 × xV) := (if lawB ((x2 (x2 (x2 (x2 V 46 0 1) 46 1 0) 46 2 (-1)) 46 4 (nI q2)) 46 4).toNatClampNeg = true then (Option.bind (f_Tokens_scan (x2 (f_Law_clear (((x2 (x2 (x2 (x2 V 46 0 1) 46 1 0) 46 2 (-1)) 46 4 (nI q2)) 46 4).toNatClampNeg) (x2 (x2 (x2 (x2 V 46 0 1) 46 1 0) 46 2 (-1)) 46 4 (nI q2))) 46 5 0)) fun p3 => g_Reader_read_42 q2 2000 0 p3) else none)
theorem t_Reader_read (q2 : Nat) (hq2 : lawB q2 = true) (V : xV) (L : xL) (res : Int32 × xV) (h : f_Reader_read q2 V = some res) : xRuns (27) M_Reader_read [.ref 46, .ref 17, .ref q2] (SH, V, L) (fun o h' => o = some (.int res.1) ∧ h' = (SH, res.2, L)) := by
  refine xRuns_of (by decide) (Nat.le_of_ble_eq_true rfl) ?_
  unfold f_Reader_read at h
  show X M_Reader_read (xRm (27) M_Reader_read) (xZ M_Reader_read (fun o h' => o = some (.int res.1) ∧ h' = (SH, res.2, L))) SH V L 0 0 0 [(0, .ref 46), (1, .ref 17), (2, .ref q2)] []
  refine x_aload_n 0 d_Reader_read_0 rfl rfl ?_
  refine x_iconst 1 d_Reader_read_1 (by decide) ?_
  refine x_putI f_Reader_26 sh_46 rfl rfl rfl d_Reader_read_2 ?_
  refine x_aload_n 0 d_Reader_read_5 rfl rfl ?_
  refine x_iconst 0 d_Reader_read_6 (by decide) ?_
  refine x_putI f_Reader_30 sh_46 rfl rfl rfl d_Reader_read_7 ?_
  refine x_aload_n 0 d_Reader_read_10 rfl rfl ?_
  refine x_iconst (-1) d_Reader_read_11 (by decide) ?_
  refine x_putI f_Reader_9 sh_46 rfl rfl rfl d_Reader_read_12 ?_
  refine x_aload_n 0 d_Reader_read_15 rfl rfl ?_
  refine x_aload_n 2 d_Reader_read_16 rfl rfl ?_
  refine x_putU f_Reader_22 sh_46 rfl (lawB_lt hq2) d_Reader_read_17 ?_
  refine x_aload_n 0 d_Reader_read_20 rfl rfl ?_
  obtain ⟨c1, h⟩ := xguard h
  refine x_getU f_Reader_22 sh_46 rfl d_Reader_read_21 ?_
  refine x_callV0v e_Reader_33 (sh_law c1) rfl (t_Law_clear (((x2 (x2 (x2 (x2 V 46 0 1) 46 1 0) 46 2 (-1)) 46 4 (nI q2)) 46 4).toNatClampNeg) c1 (x2 (x2 (x2 (x2 V 46 0 1) 46 1 0) 46 2 (-1)) 46 4 (nI q2)) L _ rfl) rfl rfl rfl (Nat.le_of_ble_eq_true rfl) (xfit_of (by omega) (Nat.le_of_ble_eq_true rfl)) (Nat.zero_le _) (Nat.zero_le _) d_Reader_read_24 ?_
  refine x_aload_n 0 d_Reader_read_27 rfl rfl ?_
  refine x_iconst 0 d_Reader_read_28 (by decide) ?_
  refine x_putI f_Reader_38 sh_46 rfl rfl rfl d_Reader_read_29 ?_
  refine x_aload_n 0 d_Reader_read_32 rfl rfl ?_
  refine x_getP (q := 47) f_Reader_18 sh_46 rfl d_Reader_read_33 ?_
  refine x_aload_n 1 d_Reader_read_36 rfl rfl ?_
  obtain ⟨p3, e4, h⟩ := xbind h
  refine x_callV0v e_Reader_41 sh_47 rfl (t_Tokens_scan (x2 (f_Law_clear (((x2 (x2 (x2 (x2 V 46 0 1) 46 1 0) 46 2 (-1)) 46 4 (nI q2)) 46 4).toNatClampNeg) (x2 (x2 (x2 (x2 V 46 0 1) 46 1 0) 46 2 (-1)) 46 4 (nI q2))) 46 5 0) L _ e4) rfl rfl rfl (Nat.le_of_ble_eq_true rfl) (xfit_of (by omega) (Nat.le_of_ble_eq_true rfl)) (Nat.zero_le _) (Nat.zero_le _) d_Reader_read_37 ?_
  refine x_iconst 0 d_Reader_read_40 (by decide) ?_
  refine x_istore_n [(3, .int 0), (0, .ref 46), (1, .ref 17), (2, .ref q2)] d_Reader_read_41 rfl (Nat.le_of_ble_eq_true rfl) rfl ?_
  refine x_pick [1, 0] rfl ?_
  exact tg_Reader_read_42 (L := L) q2 hq2 res _ 0 p3 h
-- Ww_text
def f_Ww_text (V : xV) : Option (Int32 × xV) := (Option.bind (f_Shelf_at (V 1 9)) fun p1 => (match p1 with | 0 => some ((-1), V) | q4 + 1 => (if lawB q4 = true then (Option.bind (f_Reader_read q4 V) fun p5 => (if ¬ p5.1 = 0 then some (((x2 (x2 p5.2 17 1 0) 1 9 (((x2 p5.2 17 1 0) 1 9) + 1)) 1 9) - 1, x2 (x2 p5.2 17 1 0) 1 9 (((x2 p5.2 17 1 0) 1 9) + 1)) else some ((-1), x2 p5.2 17 1 0))) else none)))
theorem t_Ww_text  (V : xV) (L : xL) (res : Int32 × xV) (h : f_Ww_text V = some res) : xRuns (28) M_Ww_text [.ref 0] (SH, V, L) (fun o h' => o = some (.int res.1) ∧ h' = (SH, res.2, L)) := by
  refine xRuns_of (by decide) (Nat.le_of_ble_eq_true rfl) ?_
  unfold f_Ww_text at h
  show X M_Ww_text (xRm (28) M_Ww_text) (xZ M_Ww_text (fun o h' => o = some (.int res.1) ∧ h' = (SH, res.2, L))) SH V L 0 0 0 [(0, .ref 0)] []
  refine x_aload_n 0 d_Ww_text_0 rfl rfl ?_
  refine x_getP (q := 19) f_Ww_31 sh_0 rfl d_Ww_text_1 ?_
  refine x_aload_n 0 d_Ww_text_4 rfl rfl ?_
  refine x_getP (q := 1) f_Ww_10 sh_0 rfl d_Ww_text_5 ?_
  refine x_getI f_Ww_114 sh_1 rfl d_Ww_text_8 ?_
  obtain ⟨p1, e2, h⟩ := xbind h
  refine x_callV0 e_Ww_117 sh_19 rfl (t_Shelf_at (V 1 9) V L _ e2) rfl rfl rfl (Nat.le_of_ble_eq_true rfl) (xfit_of (by omega) (Nat.le_of_ble_eq_true rfl)) (Nat.zero_le _) (Nat.zero_le _) d_Ww_text_11 ?_
  rcases xnul p1 with ⟨c30, c31⟩ | ⟨q4, c30, c31⟩
  · rw [c30] at h
    rw [c31]
    refine x_astore_nN [(1, .null), (0, .ref 0)] d_Ww_text_14 rfl (Nat.le_of_ble_eq_true rfl) rfl ?_
    refine x_aload_nN 0 d_Ww_text_15 rfl rfl ?_
    refine x_ifnonnullN d_Ww_text_16 ?_
    refine x_iconst (-1) d_Ww_text_19 (by decide) ?_
    obtain rfl := Option.some.inj h
    exact x_ireturn rfl d_Ww_text_20 (Nat.le_refl _) (Nat.le_refl _) ⟨rfl, rfl⟩
  · rw [c30] at h
    rw [c31]
    obtain ⟨c3, h⟩ := xguard h
    refine x_astore_n [(1, .ref q4), (0, .ref 0)] d_Ww_text_14 rfl (Nat.le_of_ble_eq_true rfl) rfl ?_
    refine x_aload_n 0 d_Ww_text_15 rfl rfl ?_
    refine x_ifnonnull 21 d_Ww_text_16 (by decide) ?_
    refine x_aload_n 1 d_Ww_text_21 rfl rfl ?_
    refine x_getP (q := 46) f_Ww_44 sh_0 rfl d_Ww_text_22 ?_
    refine x_aload_n 1 d_Ww_text_25 rfl rfl ?_
    refine x_getP (q := 17) f_Ww_22 sh_0 rfl d_Ww_text_26 ?_
    refine x_aload_n 0 d_Ww_text_29 rfl rfl ?_
    obtain ⟨p5, e6, h⟩ := xbind h
    refine x_callV0 e_Ww_121 sh_46 rfl (t_Reader_read q4 c3 V L _ e6) rfl rfl rfl (Nat.le_of_ble_eq_true rfl) (xfit_of (by omega) (Nat.le_of_ble_eq_true rfl)) (Nat.zero_le _) (Nat.zero_le _) d_Ww_text_30 ?_
    refine x_istore_n [(2, .int p5.1), (1, .ref q4), (0, .ref 0)] d_Ww_text_33 rfl (Nat.le_of_ble_eq_true rfl) rfl ?_
    refine x_aload_n 2 d_Ww_text_34 rfl rfl ?_
    refine x_getP (q := 17) f_Ww_22 sh_0 rfl d_Ww_text_35 ?_
    refine x_iconst 0 d_Ww_text_38 (by decide) ?_
    refine x_putI f_Ww_107 sh_17 rfl rfl rfl d_Ww_text_39 ?_
    refine x_iload_n 0 d_Ww_text_42 rfl rfl ?_
    refine x_if_ne 48 d_Ww_text_43 (by decide) (fun c7 => ?_) (fun c7 => ?_)
    · replace h := xpos c7 h
      refine x_aload_n 2 d_Ww_text_48 rfl rfl ?_
      refine x_getP (q := 1) f_Ww_10 sh_0 rfl d_Ww_text_49 ?_
      refine x_dup d_Ww_text_52 rfl ?_
      refine x_getI f_Ww_114 sh_1 rfl d_Ww_text_53 ?_
      refine x_iconst 1 d_Ww_text_56 (by decide) ?_
      refine x_iadd d_Ww_text_57 ?_
      refine x_putI f_Ww_114 sh_1 rfl rfl rfl d_Ww_text_58 ?_
      refine x_aload_n 2 d_Ww_text_61 rfl rfl ?_
      refine x_getP (q := 1) f_Ww_10 sh_0 rfl d_Ww_text_62 ?_
      refine x_getI f_Ww_114 sh_1 rfl d_Ww_text_65 ?_
      refine x_iconst 1 d_Ww_text_68 (by decide) ?_
      refine x_isub d_Ww_text_69 ?_
      obtain rfl := Option.some.inj h
      exact x_ireturn rfl d_Ww_text_70 (Nat.le_refl _) (Nat.le_refl _) ⟨rfl, rfl⟩
    · replace h := xneg c7 h
      refine x_iconst (-1) d_Ww_text_46 (by decide) ?_
      obtain rfl := Option.some.inj h
      exact x_ireturn rfl d_Ww_text_47 (Nat.le_refl _) (Nat.le_refl _) ⟨rfl, rfl⟩
-- Ww_fault
def f_Ww_fault (a1 : Int32) (V : xV) : Int32 := (if ¬ (V 46 0) = 0 then (if ¬ a1 = 0 then (if ¬ a1 = 1 then (-1) else (V 46 2)) else (V 46 1)) else (-1))
theorem t_Ww_fault (a1 : Int32) (V : xV) (L : xL) (res : Int32) (h : f_Ww_fault a1 V = res) : xRuns (1) M_Ww_fault [.ref 0, .int a1] (SH, V, L) (fun o h' => o = some (.int res) ∧ h' = (SH, V, L)) := by
  refine xRuns_of (by decide) (Nat.le_of_ble_eq_true rfl) ?_
  unfold f_Ww_fault at h
  show X M_Ww_fault (xRm (1) M_Ww_fault) (xZ M_Ww_fault (fun o h' => o = some (.int res) ∧ h' = (SH, V, L))) SH V L 0 0 0 [(0, .ref 0), (1, .int a1)] []
  refine x_aload_n 0 d_Ww_fault_0 rfl rfl ?_
  refine x_getP (q := 46) f_Ww_44 sh_0 rfl d_Ww_fault_1 ?_
  refine x_getI f_Ww_125 sh_46 rfl d_Ww_fault_4 ?_
  refine x_if_ne 12 d_Ww_fault_7 (by decide) (fun c1 => ?_) (fun c1 => ?_)
  · replace h := xpos c1 h
    refine x_iload_n 1 d_Ww_fault_12 rfl rfl ?_
    refine x_if_ne 24 d_Ww_fault_13 (by decide) (fun c2 => ?_) (fun c2 => ?_)
    · replace h := xpos c2 h
      refine x_iload_n 1 d_Ww_fault_24 rfl rfl ?_
      refine x_iconst 1 d_Ww_fault_25 (by decide) ?_
      refine x_icmp_ne 39 d_Ww_fault_26 (by decide) (fun c3 => ?_) (fun c3 => ?_)
      · replace h := xpos c3 h
        refine x_iconst (-1) d_Ww_fault_39 (by decide) ?_
        obtain rfl := h
        exact x_ireturn rfl d_Ww_fault_40 (Nat.le_refl _) (Nat.le_refl _) ⟨rfl, rfl⟩
      · replace h := xneg c3 h
        refine x_aload_n 0 d_Ww_fault_29 rfl rfl ?_
        refine x_getP (q := 46) f_Ww_44 sh_0 rfl d_Ww_fault_30 ?_
        refine x_getI f_Ww_132 sh_46 rfl d_Ww_fault_33 ?_
        refine x_goto 40 d_Ww_fault_36 (by decide) ?_
        obtain rfl := h
        exact x_ireturn rfl d_Ww_fault_40 (Nat.le_refl _) (Nat.le_refl _) ⟨rfl, rfl⟩
    · replace h := xneg c2 h
      refine x_aload_n 0 d_Ww_fault_16 rfl rfl ?_
      refine x_getP (q := 46) f_Ww_44 sh_0 rfl d_Ww_fault_17 ?_
      refine x_getI f_Ww_129 sh_46 rfl d_Ww_fault_20 ?_
      obtain rfl := h
      exact x_ireturn rfl d_Ww_fault_23 (Nat.le_refl _) (Nat.le_refl _) ⟨rfl, rfl⟩
  · replace h := xneg c1 h
    refine x_iconst (-1) d_Ww_fault_10 (by decide) ?_
    obtain rfl := h
    exact x_ireturn rfl d_Ww_fault_11 (Nat.le_refl _) (Nat.le_refl _) ⟨rfl, rfl⟩
-- Ww_by
def f_Ww_by (a1 : Int32) (V : xV) : Int32 × xV := (if a1 = (-1) then (1, x2 V 1 10 a1) else (if ¬ (f_Ww_within a1 (V 1 9)) = 0 then (1, x2 V 1 10 a1) else (0, V)))
theorem t_Ww_by (a1 : Int32) (V : xV) (L : xL) (res : Int32 × xV) (h : f_Ww_by a1 V = res) : xRuns (2) M_Ww_by [.ref 0, .int a1] (SH, V, L) (fun o h' => o = some (.int res.1) ∧ h' = (SH, res.2, L)) := by
  refine xRuns_of (by decide) (Nat.le_of_ble_eq_true rfl) ?_
  unfold f_Ww_by at h
  show X M_Ww_by (xRm (2) M_Ww_by) (xZ M_Ww_by (fun o h' => o = some (.int res.1) ∧ h' = (SH, res.2, L))) SH V L 0 0 0 [(0, .ref 0), (1, .int a1)] []
  refine x_iload_n 1 d_Ww_by_0 rfl rfl ?_
  refine x_iconst (-1) d_Ww_by_1 (by decide) ?_
  refine x_icmp_eq 21 d_Ww_by_2 (by decide) (fun c1 => ?_) (fun c1 => ?_)
  · replace h := xpos c1 h
    refine x_aload_n 0 d_Ww_by_21 rfl rfl ?_
    refine x_getP (q := 1) f_Ww_10 sh_0 rfl d_Ww_by_22 ?_
    refine x_iload_n 1 d_Ww_by_25 rfl rfl ?_
    refine x_putI f_Ww_135 sh_1 rfl rfl rfl d_Ww_by_26 ?_
    refine x_iconst 1 d_Ww_by_29 (by decide) ?_
    obtain rfl := h
    exact x_zreturn rfl rfl d_Ww_by_30 (Nat.le_refl _) (Nat.le_refl _) ⟨rfl, rfl⟩
  · replace h := xneg c1 h
    refine x_iload_n 1 d_Ww_by_5 rfl rfl ?_
    refine x_aload_n 0 d_Ww_by_6 rfl rfl ?_
    refine x_getP (q := 1) f_Ww_10 sh_0 rfl d_Ww_by_7 ?_
    refine x_getI f_Ww_114 sh_1 rfl d_Ww_by_10 ?_
    refine x_callS0 e_Ww_80 (t_Ww_within a1 (V 1 9) V L _ rfl) rfl rfl rfl (Nat.le_of_ble_eq_true rfl) (xfit_of (by omega) (Nat.le_of_ble_eq_true rfl)) (Nat.zero_le _) (Nat.zero_le _) d_Ww_by_13 ?_
    refine x_if_ne 21 d_Ww_by_16 (by decide) (fun c3 => ?_) (fun c3 => ?_)
    · replace h := xpos c3 h
      refine x_aload_n 0 d_Ww_by_21 rfl rfl ?_
      refine x_getP (q := 1) f_Ww_10 sh_0 rfl d_Ww_by_22 ?_
      refine x_iload_n 1 d_Ww_by_25 rfl rfl ?_
      refine x_putI f_Ww_135 sh_1 rfl rfl rfl d_Ww_by_26 ?_
      refine x_iconst 1 d_Ww_by_29 (by decide) ?_
      obtain rfl := h
      exact x_zreturn rfl rfl d_Ww_by_30 (Nat.le_refl _) (Nat.le_refl _) ⟨rfl, rfl⟩
    · replace h := xneg c3 h
      refine x_iconst 0 d_Ww_by_19 (by decide) ?_
      obtain rfl := h
      exact x_zreturn rfl rfl d_Ww_by_20 (Nat.le_refl _) (Nat.le_refl _) ⟨rfl, rfl⟩
-- Ww_areDays
def f_Ww_areDays (a0 : Int32) (a1 : Int32) : Int32 := (if a0 < 0 then 0 else (if a1 < a0 then 0 else (if 30 ≤ a1 then 0 else 1)))
theorem t_Ww_areDays (a0 : Int32) (a1 : Int32) (V : xV) (L : xL) (res : Int32) (h : f_Ww_areDays a0 a1 = res) : xRuns (1) M_Ww_areDays [.int a0, .int a1] (SH, V, L) (fun o h' => o = some (.int res) ∧ h' = (SH, V, L)) := by
  refine xRuns_of (by decide) (Nat.le_of_ble_eq_true rfl) ?_
  unfold f_Ww_areDays at h
  show X M_Ww_areDays (xRm (1) M_Ww_areDays) (xZ M_Ww_areDays (fun o h' => o = some (.int res) ∧ h' = (SH, V, L))) SH V L 0 0 0 [(0, .int a0), (1, .int a1)] []
  refine x_iload_n 0 d_Ww_areDays_0 rfl rfl ?_
  refine x_if_lt 19 d_Ww_areDays_1 (by decide) (fun c1 => ?_) (fun c1 => ?_)
  · replace h := xpos c1 h
    refine x_iconst 0 d_Ww_areDays_19 (by decide) ?_
    obtain rfl := h
    exact x_zreturn rfl rfl d_Ww_areDays_20 (Nat.le_refl _) (Nat.le_refl _) ⟨rfl, rfl⟩
  · replace h := xneg c1 h
    refine x_iload_n 0 d_Ww_areDays_4 rfl rfl ?_
    refine x_iload_n 1 d_Ww_areDays_5 rfl rfl ?_
    refine x_icmp_gt 19 d_Ww_areDays_6 (by decide) (fun c2 => ?_) (fun c2 => ?_)
    · replace h := xpos c2 h
      refine x_iconst 0 d_Ww_areDays_19 (by decide) ?_
      obtain rfl := h
      exact x_zreturn rfl rfl d_Ww_areDays_20 (Nat.le_refl _) (Nat.le_refl _) ⟨rfl, rfl⟩
    · replace h := xneg c2 h
      refine x_iload_n 1 d_Ww_areDays_9 rfl rfl ?_
      refine x_bipush 30 d_Ww_areDays_10 (by decide) ?_
      refine x_icmp_ge 19 d_Ww_areDays_12 (by decide) (fun c3 => ?_) (fun c3 => ?_)
      · replace h := xpos c3 h
        refine x_iconst 0 d_Ww_areDays_19 (by decide) ?_
        obtain rfl := h
        exact x_zreturn rfl rfl d_Ww_areDays_20 (Nat.le_refl _) (Nat.le_refl _) ⟨rfl, rfl⟩
      · replace h := xneg c3 h
        refine x_iconst 1 d_Ww_areDays_15 (by decide) ?_
        refine x_goto 20 d_Ww_areDays_16 (by decide) ?_
        obtain rfl := h
        exact x_zreturn rfl rfl d_Ww_areDays_20 (Nat.le_refl _) (Nat.le_refl _) ⟨rfl, rfl⟩
-- Shelf_ruling
def b_Shelf_ruling_30 (V : xV) : Option (Nat) := some 20
theorem tb_Shelf_ruling_30 {V : xV} {L : xL} (res : Nat)   (h : b_Shelf_ruling_30 V = some res) : X M_Shelf_ruling (xRm (1) M_Shelf_ruling) (xZ M_Shelf_ruling (fun o h' => o = some (.ref res) ∧ h' = (SH, V, L))) SH V L 0 0 30 [(0, .ref 19)] [] := by
  unfold b_Shelf_ruling_30 at h
  refine x_null d_Shelf_ruling_30 ?_
  refine x_astore_nN [(2, .null), (0, .ref 19)] d_Shelf_ruling_31 rfl (Nat.le_of_ble_eq_true rfl) rfl ?_
  refine x_aload_nN 0 d_Shelf_ruling_32 rfl rfl ?_
  refine x_ifnonnullN d_Shelf_ruling_33 ?_
  refine x_aload_n 1 d_Shelf_ruling_36 rfl rfl ?_
  refine x_getP (q := 20) f_Shelf_12 sh_19 rfl d_Shelf_ruling_37 ?_
  refine x_goto 44 d_Shelf_ruling_40 (by decide) ?_
  obtain rfl := Option.some.inj h
  exact x_areturn rfl d_Shelf_ruling_44 (Nat.le_refl _) (Nat.le_refl _) ⟨rfl, rfl⟩
def f_Shelf_ruling (V : xV) : Option (Nat) := (if (V 1 10) < 0 then b_Shelf_ruling_30 V else (if 4 ≤ (V 1 10) then b_Shelf_ruling_30 V else (if xI (V 1 10) 4 = true then some (26 + 5 * (V 1 10).toNatClampNeg) else none)))
theorem t_Shelf_ruling  (V : xV) (L : xL) (res : Nat) (h : f_Shelf_ruling V = some res) : xRuns (1) M_Shelf_ruling [.ref 19] (SH, V, L) (fun o h' => o = some (.ref res) ∧ h' = (SH, V, L)) := by
  refine xRuns_of (by decide) (Nat.le_of_ble_eq_true rfl) ?_
  unfold f_Shelf_ruling at h
  show X M_Shelf_ruling (xRm (1) M_Shelf_ruling) (xZ M_Shelf_ruling (fun o h' => o = some (.ref res) ∧ h' = (SH, V, L))) SH V L 0 0 0 [(0, .ref 19)] []
  refine x_aload_n 0 d_Shelf_ruling_0 rfl rfl ?_
  refine x_getP (q := 1) f_Shelf_22 sh_19 rfl d_Shelf_ruling_1 ?_
  refine x_getI f_Shelf_30 sh_1 rfl d_Shelf_ruling_4 ?_
  refine x_istore_n [(1, .int (V 1 10)), (0, .ref 19)] d_Shelf_ruling_7 rfl (Nat.le_of_ble_eq_true rfl) rfl ?_
  refine x_iload_n 0 d_Shelf_ruling_8 rfl rfl ?_
  refine x_if_lt 30 d_Shelf_ruling_9 (by decide) (fun c1 => ?_) (fun c1 => ?_)
  · replace h := xpos c1 h
    refine x_pick [1] rfl ?_
    exact tb_Shelf_ruling_30 (V := V) (L := L) res h
  · replace h := xneg c1 h
    refine x_iload_n 0 d_Shelf_ruling_12 rfl rfl ?_
    refine x_aload_n 1 d_Shelf_ruling_13 rfl rfl ?_
    refine x_getP (q := 25) f_Shelf_18 sh_19 rfl d_Shelf_ruling_14 ?_
    refine x_alen 4 sh_25 (by decide) (by decide) d_Shelf_ruling_17 ?_
    refine x_icmp_ge 30 d_Shelf_ruling_18 (by decide) (fun c2 => ?_) (fun c2 => ?_)
    · replace h := xpos c2 h
      refine x_pick [1] rfl ?_
      exact tb_Shelf_ruling_30 (V := V) (L := L) res h
    · replace h := xneg c2 h
      refine x_aload_n 1 d_Shelf_ruling_21 rfl rfl ?_
      refine x_getP (q := 25) f_Shelf_18 sh_19 rfl d_Shelf_ruling_22 ?_
      refine x_iload_n 0 d_Shelf_ruling_25 rfl rfl ?_
      obtain ⟨c3, h⟩ := xguard h
      refine x_aaload sh_25 c3 (law_f c3) d_Shelf_ruling_26 ?_
      refine x_goto 31 d_Shelf_ruling_27 (by decide) ?_
      refine x_astore_n [(2, .ref (26 + 5 * (V 1 10).toNatClampNeg)), (1, .int (V 1 10)), (0, .ref 19)] d_Shelf_ruling_31 rfl (Nat.le_of_ble_eq_true rfl) rfl ?_
      refine x_aload_n 0 d_Shelf_ruling_32 rfl rfl ?_
      refine x_ifnonnull 43 d_Shelf_ruling_33 (by decide) ?_
      refine x_aload_n 0 d_Shelf_ruling_43 rfl rfl ?_
      obtain rfl := Option.some.inj h
      exact x_areturn rfl d_Shelf_ruling_44 (Nat.le_refl _) (Nat.le_refl _) ⟨rfl, rfl⟩
-- Bench_tell
def f_Bench_tell (a1 : Int32) (a2 : Int32) (V : xV) : Option (xV) := (if (f_Ww_within (a1 - 9) 13) = 0 then some V else (if xI (a1 - 9) 13 = true then some (x2 V 54 ((a1 - 9).toNatClampNeg) a2) else none))
theorem t_Bench_tell (a1 : Int32) (a2 : Int32) (V : xV) (L : xL) (res : xV) (h : f_Bench_tell a1 a2 V = some res) : xRuns (2) M_Bench_tell [.ref 52, .int a1, .int a2] (SH, V, L) (fun o h' => o = none ∧ h' = (SH, res, L)) := by
  refine xRuns_of (by decide) (Nat.le_of_ble_eq_true rfl) ?_
  unfold f_Bench_tell at h
  show X M_Bench_tell (xRm (2) M_Bench_tell) (xZ M_Bench_tell (fun o h' => o = none ∧ h' = (SH, res, L))) SH V L 0 0 0 [(0, .ref 52), (1, .int a1), (2, .int a2)] []
  refine x_iload_n 1 d_Bench_tell_0 rfl rfl ?_
  refine x_bipush 9 d_Bench_tell_1 (by decide) ?_
  refine x_isub d_Bench_tell_3 ?_
  refine x_bipush 13 d_Bench_tell_4 (by decide) ?_
  refine x_callSN0 e_Bench_18 (t_Ww_within (a1 - 9) 13 V L _ rfl) rfl rfl rfl (Nat.le_of_ble_eq_true rfl) (xfit_of (by omega) (Nat.le_of_ble_eq_true rfl)) (Nat.zero_le _) (Nat.zero_le _) d_Bench_tell_6 ?_
  refine x_if_eq 22 d_Bench_tell_9 (by decide) (fun c2 => ?_) (fun c2 => ?_)
  · replace h := xpos c2 h
    obtain rfl := Option.some.inj h
    exact x_return rfl d_Bench_tell_22 (Nat.le_refl _) (Nat.le_refl _) ⟨rfl, rfl⟩
  · replace h := xneg c2 h
    refine x_aload_n 0 d_Bench_tell_12 rfl rfl ?_
    refine x_getP (q := 54) f_Bench_15 sh_52 rfl d_Bench_tell_13 ?_
    refine x_iload_n 1 d_Bench_tell_16 rfl rfl ?_
    refine x_bipush 9 d_Bench_tell_17 (by decide) ?_
    refine x_isub d_Bench_tell_19 ?_
    refine x_iload_n 2 d_Bench_tell_20 rfl rfl ?_
    obtain ⟨c3, h⟩ := xguard h
    refine x_iastore sh_54 c3 d_Bench_tell_21 ?_
    obtain rfl := Option.some.inj h
    exact x_return rfl d_Bench_tell_22 (Nat.le_refl _) (Nat.le_refl _) ⟨rfl, rfl⟩
-- Rolls_decreeOf
def f_Rolls_decreeOf (a1 : Int32) (a2 : Int32) (V : xV) : Option (Int32) := (if (f_Ww_within ((a1 * 4) + a2) 120) = 0 then some 0 else (if xI ((a1 * 4) + a2) 120 = true then some (V 6 ((a1 * 4) + a2).toNatClampNeg) else none))
theorem t_Rolls_decreeOf (a1 : Int32) (a2 : Int32) (V : xV) (L : xL) (res : Int32) (h : f_Rolls_decreeOf a1 a2 V = some res) : xRuns (2) M_Rolls_decreeOf [.ref 1, .int a1, .int a2] (SH, V, L) (fun o h' => o = some (.int res) ∧ h' = (SH, V, L)) := by
  refine xRuns_of (by decide) (Nat.le_of_ble_eq_true rfl) ?_
  unfold f_Rolls_decreeOf at h
  show X M_Rolls_decreeOf (xRm (2) M_Rolls_decreeOf) (xZ M_Rolls_decreeOf (fun o h' => o = some (.int res) ∧ h' = (SH, V, L))) SH V L 0 0 0 [(0, .ref 1), (1, .int a1), (2, .int a2)] []
  refine x_iload_n 1 d_Rolls_decreeOf_0 rfl rfl ?_
  refine x_iconst 4 d_Rolls_decreeOf_1 (by decide) ?_
  refine x_imul d_Rolls_decreeOf_2 ?_
  refine x_iload_n 2 d_Rolls_decreeOf_3 rfl rfl ?_
  refine x_iadd d_Rolls_decreeOf_4 ?_
  refine x_istore_n [(3, .int ((a1 * 4) + a2)), (0, .ref 1), (1, .int a1), (2, .int a2)] d_Rolls_decreeOf_5 rfl (Nat.le_of_ble_eq_true rfl) rfl ?_
  refine x_iload_n 0 d_Rolls_decreeOf_6 rfl rfl ?_
  refine x_aload_n 1 d_Rolls_decreeOf_7 rfl rfl ?_
  refine x_getP (q := 6) f_Rolls_24 sh_1 rfl d_Rolls_decreeOf_8 ?_
  refine x_alen 120 sh_6 (by decide) (by decide) d_Rolls_decreeOf_11 ?_
  refine x_callSN0 e_Rolls_64 (t_Ww_within ((a1 * 4) + a2) 120 V L _ rfl) rfl rfl rfl (Nat.le_of_ble_eq_true rfl) (xfit_of (by omega) (Nat.le_of_ble_eq_true rfl)) (Nat.zero_le _) (Nat.zero_le _) d_Rolls_decreeOf_12 ?_
  refine x_if_eq 27 d_Rolls_decreeOf_15 (by decide) (fun c2 => ?_) (fun c2 => ?_)
  · replace h := xpos c2 h
    refine x_iconst 0 d_Rolls_decreeOf_27 (by decide) ?_
    obtain rfl := Option.some.inj h
    exact x_ireturn rfl d_Rolls_decreeOf_28 (Nat.le_refl _) (Nat.le_refl _) ⟨rfl, rfl⟩
  · replace h := xneg c2 h
    refine x_aload_n 1 d_Rolls_decreeOf_18 rfl rfl ?_
    refine x_getP (q := 6) f_Rolls_24 sh_1 rfl d_Rolls_decreeOf_19 ?_
    refine x_iload_n 0 d_Rolls_decreeOf_22 rfl rfl ?_
    obtain ⟨c3, h⟩ := xguard h
    refine x_iaload sh_6 c3 d_Rolls_decreeOf_23 ?_
    refine x_goto 28 d_Rolls_decreeOf_24 (by decide) ?_
    obtain rfl := Option.some.inj h
    exact x_ireturn rfl d_Rolls_decreeOf_28 (Nat.le_refl _) (Nat.le_refl _) ⟨rfl, rfl⟩
-- Rolls_lastOf
def f_Rolls_lastOf (a1 : Int32) (a2 : Int32) (V : xV) : Option (Int32) := (Option.bind (f_Rolls_decreeOf (a1 - 1) a2 V) fun p1 => some p1)
theorem t_Rolls_lastOf (a1 : Int32) (a2 : Int32) (V : xV) (L : xL) (res : Int32) (h : f_Rolls_lastOf a1 a2 V = some res) : xRuns (3) M_Rolls_lastOf [.ref 1, .int a1, .int a2] (SH, V, L) (fun o h' => o = some (.int res) ∧ h' = (SH, V, L)) := by
  refine xRuns_of (by decide) (Nat.le_of_ble_eq_true rfl) ?_
  unfold f_Rolls_lastOf at h
  show X M_Rolls_lastOf (xRm (3) M_Rolls_lastOf) (xZ M_Rolls_lastOf (fun o h' => o = some (.int res) ∧ h' = (SH, V, L))) SH V L 0 0 0 [(0, .ref 1), (1, .int a1), (2, .int a2)] []
  refine x_aload_n 0 d_Rolls_lastOf_0 rfl rfl ?_
  refine x_iload_n 1 d_Rolls_lastOf_1 rfl rfl ?_
  refine x_iconst 1 d_Rolls_lastOf_2 (by decide) ?_
  refine x_isub d_Rolls_lastOf_3 ?_
  refine x_iload_n 2 d_Rolls_lastOf_4 rfl rfl ?_
  obtain ⟨p1, e2, h⟩ := xbind h
  refine x_callV0 e_Rolls_68 sh_1 rfl (t_Rolls_decreeOf (a1 - 1) a2 V L _ e2) rfl rfl rfl (Nat.le_of_ble_eq_true rfl) (xfit_of (by omega) (Nat.le_of_ble_eq_true rfl)) (Nat.zero_le _) (Nat.zero_le _) d_Rolls_lastOf_5 ?_
  obtain rfl := Option.some.inj h
  exact x_ireturn rfl d_Rolls_lastOf_8 (Nat.le_refl _) (Nat.le_refl _) ⟨rfl, rfl⟩
-- Rolls_skyOf
def f_Rolls_skyOf (a1 : Int32) (V : xV) : Option (Int32) := (if (f_Ww_within a1 30) = 0 then some 0 else (if xI a1 30 = true then some (V 5 a1.toNatClampNeg) else none))
theorem t_Rolls_skyOf (a1 : Int32) (V : xV) (L : xL) (res : Int32) (h : f_Rolls_skyOf a1 V = some res) : xRuns (2) M_Rolls_skyOf [.ref 1, .int a1] (SH, V, L) (fun o h' => o = some (.int res) ∧ h' = (SH, V, L)) := by
  refine xRuns_of (by decide) (Nat.le_of_ble_eq_true rfl) ?_
  unfold f_Rolls_skyOf at h
  show X M_Rolls_skyOf (xRm (2) M_Rolls_skyOf) (xZ M_Rolls_skyOf (fun o h' => o = some (.int res) ∧ h' = (SH, V, L))) SH V L 0 0 0 [(0, .ref 1), (1, .int a1)] []
  refine x_iload_n 1 d_Rolls_skyOf_0 rfl rfl ?_
  refine x_bipush 30 d_Rolls_skyOf_1 (by decide) ?_
  refine x_callSN0 e_Rolls_64 (t_Ww_within a1 30 V L _ rfl) rfl rfl rfl (Nat.le_of_ble_eq_true rfl) (xfit_of (by omega) (Nat.le_of_ble_eq_true rfl)) (Nat.zero_le _) (Nat.zero_le _) d_Rolls_skyOf_3 ?_
  refine x_if_eq 18 d_Rolls_skyOf_6 (by decide) (fun c2 => ?_) (fun c2 => ?_)
  · replace h := xpos c2 h
    refine x_iconst 0 d_Rolls_skyOf_18 (by decide) ?_
    obtain rfl := Option.some.inj h
    exact x_ireturn rfl d_Rolls_skyOf_19 (Nat.le_refl _) (Nat.le_refl _) ⟨rfl, rfl⟩
  · replace h := xneg c2 h
    refine x_aload_n 0 d_Rolls_skyOf_9 rfl rfl ?_
    refine x_getP (q := 5) f_Rolls_21 sh_1 rfl d_Rolls_skyOf_10 ?_
    refine x_iload_n 1 d_Rolls_skyOf_13 rfl rfl ?_
    obtain ⟨c3, h⟩ := xguard h
    refine x_iaload sh_5 c3 d_Rolls_skyOf_14 ?_
    refine x_goto 19 d_Rolls_skyOf_15 (by decide) ?_
    obtain rfl := Option.some.inj h
    exact x_ireturn rfl d_Rolls_skyOf_19 (Nat.le_refl _) (Nat.le_refl _) ⟨rfl, rfl⟩
-- Rolls_seenOn
def f_Rolls_seenOn (a1 : Int32) (V : xV) : Option (Int32) := (Option.bind (f_Rolls_skyOf (a1 - 1) V) fun p1 => some p1)
theorem t_Rolls_seenOn (a1 : Int32) (V : xV) (L : xL) (res : Int32) (h : f_Rolls_seenOn a1 V = some res) : xRuns (3) M_Rolls_seenOn [.ref 1, .int a1] (SH, V, L) (fun o h' => o = some (.int res) ∧ h' = (SH, V, L)) := by
  refine xRuns_of (by decide) (Nat.le_of_ble_eq_true rfl) ?_
  unfold f_Rolls_seenOn at h
  show X M_Rolls_seenOn (xRm (3) M_Rolls_seenOn) (xZ M_Rolls_seenOn (fun o h' => o = some (.int res) ∧ h' = (SH, V, L))) SH V L 0 0 0 [(0, .ref 1), (1, .int a1)] []
  refine x_aload_n 0 d_Rolls_seenOn_0 rfl rfl ?_
  refine x_iload_n 1 d_Rolls_seenOn_1 rfl rfl ?_
  refine x_iconst 1 d_Rolls_seenOn_2 (by decide) ?_
  refine x_isub d_Rolls_seenOn_3 ?_
  obtain ⟨p1, e2, h⟩ := xbind h
  refine x_callV0 e_Rolls_72 sh_1 rfl (t_Rolls_skyOf (a1 - 1) V L _ e2) rfl rfl rfl (Nat.le_of_ble_eq_true rfl) (xfit_of (by omega) (Nat.le_of_ble_eq_true rfl)) (Nat.zero_le _) (Nat.zero_le _) d_Rolls_seenOn_4 ?_
  obtain rfl := Option.some.inj h
  exact x_ireturn rfl d_Rolls_seenOn_7 (Nat.le_refl _) (Nat.le_refl _) ⟨rfl, rfl⟩
-- Law_stopOf
def f_Law_stopOf (q0 : Nat) (a1 : Int32) (V : xV) : Option (Int32) := (if a1 < 0 then some 0 else (if 6 ≤ a1 then some 0 else (if xI a1 6 = true then some (V (q0 + 3) a1.toNatClampNeg) else none)))
theorem t_Law_stopOf (q0 : Nat) (a1 : Int32) (hq0 : lawB q0 = true) (V : xV) (L : xL) (res : Int32) (h : f_Law_stopOf q0 a1 V = some res) : xRuns (1) M_Law_stopOf [.ref q0, .int a1] (SH, V, L) (fun o h' => o = some (.int res) ∧ h' = (SH, V, L)) := by
  refine xRuns_of (by decide) (Nat.le_of_ble_eq_true rfl) ?_
  unfold f_Law_stopOf at h
  show X M_Law_stopOf (xRm (1) M_Law_stopOf) (xZ M_Law_stopOf (fun o h' => o = some (.int res) ∧ h' = (SH, V, L))) SH V L 0 0 0 [(0, .ref q0), (1, .int a1)] []
  refine x_iload_n 1 d_Law_stopOf_0 rfl rfl ?_
  refine x_if_lt 19 d_Law_stopOf_1 (by decide) (fun c1 => ?_) (fun c1 => ?_)
  · replace h := xpos c1 h
    refine x_iconst 0 d_Law_stopOf_19 (by decide) ?_
    obtain rfl := Option.some.inj h
    exact x_ireturn rfl d_Law_stopOf_20 (Nat.le_refl _) (Nat.le_refl _) ⟨rfl, rfl⟩
  · replace h := xneg c1 h
    refine x_iload_n 1 d_Law_stopOf_4 rfl rfl ?_
    refine x_bipush 6 d_Law_stopOf_5 (by decide) ?_
    refine x_icmp_ge 19 d_Law_stopOf_7 (by decide) (fun c2 => ?_) (fun c2 => ?_)
    · replace h := xpos c2 h
      refine x_iconst 0 d_Law_stopOf_19 (by decide) ?_
      obtain rfl := Option.some.inj h
      exact x_ireturn rfl d_Law_stopOf_20 (Nat.le_refl _) (Nat.le_refl _) ⟨rfl, rfl⟩
    · replace h := xneg c2 h
      refine x_aload_n 0 d_Law_stopOf_10 rfl rfl ?_
      refine x_getP (q := q0 + 3) f_Law_18 (sh_law hq0) rfl d_Law_stopOf_11 ?_
      refine x_iload_n 1 d_Law_stopOf_14 rfl rfl ?_
      obtain ⟨c3, h⟩ := xguard h
      refine x_iaload (sh_law3 hq0) c3 d_Law_stopOf_15 ?_
      refine x_goto 20 d_Law_stopOf_16 (by decide) ?_
      obtain rfl := Option.some.inj h
      exact x_ireturn rfl d_Law_stopOf_20 (Nat.le_refl _) (Nat.le_refl _) ⟨rfl, rfl⟩
-- Law_startOf
def f_Law_startOf (q0 : Nat) (a1 : Int32) (V : xV) : Option (Int32) := (if a1 < 0 then some 0 else (if 6 ≤ a1 then some 0 else (if xI a1 6 = true then some (V (q0 + 2) a1.toNatClampNeg) else none)))
theorem t_Law_startOf (q0 : Nat) (a1 : Int32) (hq0 : lawB q0 = true) (V : xV) (L : xL) (res : Int32) (h : f_Law_startOf q0 a1 V = some res) : xRuns (1) M_Law_startOf [.ref q0, .int a1] (SH, V, L) (fun o h' => o = some (.int res) ∧ h' = (SH, V, L)) := by
  refine xRuns_of (by decide) (Nat.le_of_ble_eq_true rfl) ?_
  unfold f_Law_startOf at h
  show X M_Law_startOf (xRm (1) M_Law_startOf) (xZ M_Law_startOf (fun o h' => o = some (.int res) ∧ h' = (SH, V, L))) SH V L 0 0 0 [(0, .ref q0), (1, .int a1)] []
  refine x_iload_n 1 d_Law_startOf_0 rfl rfl ?_
  refine x_if_lt 19 d_Law_startOf_1 (by decide) (fun c1 => ?_) (fun c1 => ?_)
  · replace h := xpos c1 h
    refine x_iconst 0 d_Law_startOf_19 (by decide) ?_
    obtain rfl := Option.some.inj h
    exact x_ireturn rfl d_Law_startOf_20 (Nat.le_refl _) (Nat.le_refl _) ⟨rfl, rfl⟩
  · replace h := xneg c1 h
    refine x_iload_n 1 d_Law_startOf_4 rfl rfl ?_
    refine x_bipush 6 d_Law_startOf_5 (by decide) ?_
    refine x_icmp_ge 19 d_Law_startOf_7 (by decide) (fun c2 => ?_) (fun c2 => ?_)
    · replace h := xpos c2 h
      refine x_iconst 0 d_Law_startOf_19 (by decide) ?_
      obtain rfl := Option.some.inj h
      exact x_ireturn rfl d_Law_startOf_20 (Nat.le_refl _) (Nat.le_refl _) ⟨rfl, rfl⟩
    · replace h := xneg c2 h
      refine x_aload_n 0 d_Law_startOf_10 rfl rfl ?_
      refine x_getP (q := q0 + 2) f_Law_15 (sh_law hq0) rfl d_Law_startOf_11 ?_
      refine x_iload_n 1 d_Law_startOf_14 rfl rfl ?_
      obtain ⟨c3, h⟩ := xguard h
      refine x_iaload (sh_law2 hq0) c3 d_Law_startOf_15 ?_
      refine x_goto 20 d_Law_startOf_16 (by decide) ?_
      obtain rfl := Option.some.inj h
      exact x_ireturn rfl d_Law_startOf_20 (Nat.le_refl _) (Nat.le_refl _) ⟨rfl, rfl⟩
-- Bench_worked
def f_Bench_worked (a0 : Int32) (a1 : Int64) (a3 : Int64) : Option (Int64) := (if a0 = 6 then some (a1 ||| a3) else (if a0 = 7 then some (a1 &&& a3) else (if a0 = 22 then (if 0 ≤ (lg_cmp a1 a3) then some 0 else some 1) else (if a0 = 23 then (if 0 < (lg_cmp a1 a3) then some 0 else some 1) else (if a0 = 24 then (if (lg_cmp a1 a3) ≤ 0 then some 0 else some 1) else (if a0 = 25 then (if (lg_cmp a1 a3) < 0 then some 0 else some 1) else (if a0 = 26 then (if ¬ (lg_cmp a1 a3) = 0 then some 0 else some 1) else (if a0 = 27 then (if (lg_cmp a1 a3) = 0 then some 0 else some 1) else (if a0 = 28 then some (a1 + a3) else (if a0 = 29 then some (a1 - a3) else (if a0 = 30 then some (a1 * a3) else (if a0 = 31 then (if ¬ (lg_cmp a3 0) = 0 then (if ¬ a3 = 0 then some (a1 / a3) else none) else some 0) else some 0))))))))))))
theorem t_Bench_worked (a0 : Int32) (a1 : Int64) (a3 : Int64) (V : xV) (L : xL) (res : Int64) (h : f_Bench_worked a0 a1 a3 = some res) : xRuns (1) M_Bench_worked [.int a0, .long a1, .long a3] (SH, V, L) (fun o h' => o = some (.long res) ∧ h' = (SH, V, L)) := by
  refine xRuns_of (by decide) (Nat.le_of_ble_eq_true rfl) ?_
  unfold f_Bench_worked at h
  show X M_Bench_worked (xRm (1) M_Bench_worked) (xZ M_Bench_worked (fun o h' => o = some (.long res) ∧ h' = (SH, V, L))) SH V L 0 0 0 [(0, .int a0), (1, .long a1), (3, .long a3)] []
  refine x_iload_n 0 d_Bench_worked_0 rfl rfl ?_
  by_cases c1 : a0 = 6
  · replace h := xpos c1 h
    refine x_tableIn 149 150 d_Bench_worked_1 (by rw [c1]; decide) (by rw [c1]; decide) (by rw [c1]; rfl) (by decide) ?_
    refine x_lload_n 1 d_Bench_worked_150 rfl rfl ?_
    refine x_lload_n 2 d_Bench_worked_151 rfl rfl ?_
    refine x_lor d_Bench_worked_152 ?_
    obtain rfl := Option.some.inj h
    exact x_lreturn rfl d_Bench_worked_153 (Nat.le_refl _) (Nat.le_refl _) ⟨rfl, rfl⟩
  replace h := xneg c1 h
  by_cases c2 : a0 = 7
  · replace h := xpos c2 h
    refine x_tableIn 145 146 d_Bench_worked_1 (by rw [c2]; decide) (by rw [c2]; decide) (by rw [c2]; rfl) (by decide) ?_
    refine x_lload_n 1 d_Bench_worked_146 rfl rfl ?_
    refine x_lload_n 2 d_Bench_worked_147 rfl rfl ?_
    refine x_land d_Bench_worked_148 ?_
    obtain rfl := Option.some.inj h
    exact x_lreturn rfl d_Bench_worked_149 (Nat.le_refl _) (Nat.le_refl _) ⟨rfl, rfl⟩
  replace h := xneg c2 h
  by_cases c3 : a0 = 22
  · replace h := xpos c3 h
    refine x_tableIn 153 154 d_Bench_worked_1 (by rw [c3]; decide) (by rw [c3]; decide) (by rw [c3]; rfl) (by decide) ?_
    refine x_lload_n 1 d_Bench_worked_154 rfl rfl ?_
    refine x_lload_n 2 d_Bench_worked_155 rfl rfl ?_
    refine x_lcmp d_Bench_worked_156 ?_
    refine x_if_ge 164 d_Bench_worked_157 (by decide) (fun c4 => ?_) (fun c4 => ?_)
    · replace h := xpos c4 h
      refine x_lconst 0 d_Bench_worked_164 (by decide) ?_
      obtain rfl := Option.some.inj h
      exact x_lreturn rfl d_Bench_worked_165 (Nat.le_refl _) (Nat.le_refl _) ⟨rfl, rfl⟩
    · replace h := xneg c4 h
      refine x_lconst 1 d_Bench_worked_160 (by decide) ?_
      refine x_goto 165 d_Bench_worked_161 (by decide) ?_
      obtain rfl := Option.some.inj h
      exact x_lreturn rfl d_Bench_worked_165 (Nat.le_refl _) (Nat.le_refl _) ⟨rfl, rfl⟩
  replace h := xneg c3 h
  by_cases c5 : a0 = 23
  · replace h := xpos c5 h
    refine x_tableIn 165 166 d_Bench_worked_1 (by rw [c5]; decide) (by rw [c5]; decide) (by rw [c5]; rfl) (by decide) ?_
    refine x_lload_n 1 d_Bench_worked_166 rfl rfl ?_
    refine x_lload_n 2 d_Bench_worked_167 rfl rfl ?_
    refine x_lcmp d_Bench_worked_168 ?_
    refine x_if_gt 176 d_Bench_worked_169 (by decide) (fun c6 => ?_) (fun c6 => ?_)
    · replace h := xpos c6 h
      refine x_lconst 0 d_Bench_worked_176 (by decide) ?_
      obtain rfl := Option.some.inj h
      exact x_lreturn rfl d_Bench_worked_177 (Nat.le_refl _) (Nat.le_refl _) ⟨rfl, rfl⟩
    · replace h := xneg c6 h
      refine x_lconst 1 d_Bench_worked_172 (by decide) ?_
      refine x_goto 177 d_Bench_worked_173 (by decide) ?_
      obtain rfl := Option.some.inj h
      exact x_lreturn rfl d_Bench_worked_177 (Nat.le_refl _) (Nat.le_refl _) ⟨rfl, rfl⟩
  replace h := xneg c5 h
  by_cases c7 : a0 = 24
  · replace h := xpos c7 h
    refine x_tableIn 177 178 d_Bench_worked_1 (by rw [c7]; decide) (by rw [c7]; decide) (by rw [c7]; rfl) (by decide) ?_
    refine x_lload_n 1 d_Bench_worked_178 rfl rfl ?_
    refine x_lload_n 2 d_Bench_worked_179 rfl rfl ?_
    refine x_lcmp d_Bench_worked_180 ?_
    refine x_if_le 188 d_Bench_worked_181 (by decide) (fun c8 => ?_) (fun c8 => ?_)
    · replace h := xpos c8 h
      refine x_lconst 0 d_Bench_worked_188 (by decide) ?_
      obtain rfl := Option.some.inj h
      exact x_lreturn rfl d_Bench_worked_189 (Nat.le_refl _) (Nat.le_refl _) ⟨rfl, rfl⟩
    · replace h := xneg c8 h
      refine x_lconst 1 d_Bench_worked_184 (by decide) ?_
      refine x_goto 189 d_Bench_worked_185 (by decide) ?_
      obtain rfl := Option.some.inj h
      exact x_lreturn rfl d_Bench_worked_189 (Nat.le_refl _) (Nat.le_refl _) ⟨rfl, rfl⟩
  replace h := xneg c7 h
  by_cases c9 : a0 = 25
  · replace h := xpos c9 h
    refine x_tableIn 189 190 d_Bench_worked_1 (by rw [c9]; decide) (by rw [c9]; decide) (by rw [c9]; rfl) (by decide) ?_
    refine x_lload_n 1 d_Bench_worked_190 rfl rfl ?_
    refine x_lload_n 2 d_Bench_worked_191 rfl rfl ?_
    refine x_lcmp d_Bench_worked_192 ?_
    refine x_if_lt 200 d_Bench_worked_193 (by decide) (fun c10 => ?_) (fun c10 => ?_)
    · replace h := xpos c10 h
      refine x_lconst 0 d_Bench_worked_200 (by decide) ?_
      obtain rfl := Option.some.inj h
      exact x_lreturn rfl d_Bench_worked_201 (Nat.le_refl _) (Nat.le_refl _) ⟨rfl, rfl⟩
    · replace h := xneg c10 h
      refine x_lconst 1 d_Bench_worked_196 (by decide) ?_
      refine x_goto 201 d_Bench_worked_197 (by decide) ?_
      obtain rfl := Option.some.inj h
      exact x_lreturn rfl d_Bench_worked_201 (Nat.le_refl _) (Nat.le_refl _) ⟨rfl, rfl⟩
  replace h := xneg c9 h
  by_cases c11 : a0 = 26
  · replace h := xpos c11 h
    refine x_tableIn 201 202 d_Bench_worked_1 (by rw [c11]; decide) (by rw [c11]; decide) (by rw [c11]; rfl) (by decide) ?_
    refine x_lload_n 1 d_Bench_worked_202 rfl rfl ?_
    refine x_lload_n 2 d_Bench_worked_203 rfl rfl ?_
    refine x_lcmp d_Bench_worked_204 ?_
    refine x_if_ne 212 d_Bench_worked_205 (by decide) (fun c12 => ?_) (fun c12 => ?_)
    · replace h := xpos c12 h
      refine x_lconst 0 d_Bench_worked_212 (by decide) ?_
      obtain rfl := Option.some.inj h
      exact x_lreturn rfl d_Bench_worked_213 (Nat.le_refl _) (Nat.le_refl _) ⟨rfl, rfl⟩
    · replace h := xneg c12 h
      refine x_lconst 1 d_Bench_worked_208 (by decide) ?_
      refine x_goto 213 d_Bench_worked_209 (by decide) ?_
      obtain rfl := Option.some.inj h
      exact x_lreturn rfl d_Bench_worked_213 (Nat.le_refl _) (Nat.le_refl _) ⟨rfl, rfl⟩
  replace h := xneg c11 h
  by_cases c13 : a0 = 27
  · replace h := xpos c13 h
    refine x_tableIn 213 214 d_Bench_worked_1 (by rw [c13]; decide) (by rw [c13]; decide) (by rw [c13]; rfl) (by decide) ?_
    refine x_lload_n 1 d_Bench_worked_214 rfl rfl ?_
    refine x_lload_n 2 d_Bench_worked_215 rfl rfl ?_
    refine x_lcmp d_Bench_worked_216 ?_
    refine x_if_eq 224 d_Bench_worked_217 (by decide) (fun c14 => ?_) (fun c14 => ?_)
    · replace h := xpos c14 h
      refine x_lconst 0 d_Bench_worked_224 (by decide) ?_
      obtain rfl := Option.some.inj h
      exact x_lreturn rfl d_Bench_worked_225 (Nat.le_refl _) (Nat.le_refl _) ⟨rfl, rfl⟩
    · replace h := xneg c14 h
      refine x_lconst 1 d_Bench_worked_220 (by decide) ?_
      refine x_goto 225 d_Bench_worked_221 (by decide) ?_
      obtain rfl := Option.some.inj h
      exact x_lreturn rfl d_Bench_worked_225 (Nat.le_refl _) (Nat.le_refl _) ⟨rfl, rfl⟩
  replace h := xneg c13 h
  by_cases c15 : a0 = 28
  · replace h := xpos c15 h
    refine x_tableIn 119 120 d_Bench_worked_1 (by rw [c15]; decide) (by rw [c15]; decide) (by rw [c15]; rfl) (by decide) ?_
    refine x_lload_n 1 d_Bench_worked_120 rfl rfl ?_
    refine x_lload_n 2 d_Bench_worked_121 rfl rfl ?_
    refine x_ladd d_Bench_worked_122 ?_
    obtain rfl := Option.some.inj h
    exact x_lreturn rfl d_Bench_worked_123 (Nat.le_refl _) (Nat.le_refl _) ⟨rfl, rfl⟩
  replace h := xneg c15 h
  by_cases c16 : a0 = 29
  · replace h := xpos c16 h
    refine x_tableIn 123 124 d_Bench_worked_1 (by rw [c16]; decide) (by rw [c16]; decide) (by rw [c16]; rfl) (by decide) ?_
    refine x_lload_n 1 d_Bench_worked_124 rfl rfl ?_
    refine x_lload_n 2 d_Bench_worked_125 rfl rfl ?_
    refine x_lsub d_Bench_worked_126 ?_
    obtain rfl := Option.some.inj h
    exact x_lreturn rfl d_Bench_worked_127 (Nat.le_refl _) (Nat.le_refl _) ⟨rfl, rfl⟩
  replace h := xneg c16 h
  by_cases c17 : a0 = 30
  · replace h := xpos c17 h
    refine x_tableIn 127 128 d_Bench_worked_1 (by rw [c17]; decide) (by rw [c17]; decide) (by rw [c17]; rfl) (by decide) ?_
    refine x_lload_n 1 d_Bench_worked_128 rfl rfl ?_
    refine x_lload_n 2 d_Bench_worked_129 rfl rfl ?_
    refine x_lmul d_Bench_worked_130 ?_
    obtain rfl := Option.some.inj h
    exact x_lreturn rfl d_Bench_worked_131 (Nat.le_refl _) (Nat.le_refl _) ⟨rfl, rfl⟩
  replace h := xneg c17 h
  by_cases c18 : a0 = 31
  · replace h := xpos c18 h
    refine x_tableIn 131 132 d_Bench_worked_1 (by rw [c18]; decide) (by rw [c18]; decide) (by rw [c18]; rfl) (by decide) ?_
    refine x_lload_n 2 d_Bench_worked_132 rfl rfl ?_
    refine x_lconst 0 d_Bench_worked_133 (by decide) ?_
    refine x_lcmp d_Bench_worked_134 ?_
    refine x_if_ne 142 d_Bench_worked_135 (by decide) (fun c19 => ?_) (fun c19 => ?_)
    · replace h := xpos c19 h
      refine x_lload_n 1 d_Bench_worked_142 rfl rfl ?_
      refine x_lload_n 2 d_Bench_worked_143 rfl rfl ?_
      obtain ⟨c20, h⟩ := xguard h
      refine x_ldiv d_Bench_worked_144 c20 ?_
      obtain rfl := Option.some.inj h
      exact x_lreturn rfl d_Bench_worked_145 (Nat.le_refl _) (Nat.le_refl _) ⟨rfl, rfl⟩
    · replace h := xneg c19 h
      refine x_lconst 0 d_Bench_worked_138 (by decide) ?_
      refine x_goto 145 d_Bench_worked_139 (by decide) ?_
      obtain rfl := Option.some.inj h
      exact x_lreturn rfl d_Bench_worked_145 (Nat.le_refl _) (Nat.le_refl _) ⟨rfl, rfl⟩
  replace h := xneg c18 h
  by_cases c21 : a0 = 8
  · refine x_tableIn 225 226 d_Bench_worked_1 (by rw [c21]; decide) (by rw [c21]; decide) (by rw [c21]; rfl) (by decide) ?_
    refine x_lconst 0 d_Bench_worked_226 (by decide) ?_
    obtain rfl := Option.some.inj h
    exact x_lreturn rfl d_Bench_worked_227 (Nat.le_refl _) (Nat.le_refl _) ⟨rfl, rfl⟩
  by_cases c22 : a0 = 9
  · refine x_tableIn 225 226 d_Bench_worked_1 (by rw [c22]; decide) (by rw [c22]; decide) (by rw [c22]; rfl) (by decide) ?_
    refine x_lconst 0 d_Bench_worked_226 (by decide) ?_
    obtain rfl := Option.some.inj h
    exact x_lreturn rfl d_Bench_worked_227 (Nat.le_refl _) (Nat.le_refl _) ⟨rfl, rfl⟩
  by_cases c23 : a0 = 10
  · refine x_tableIn 225 226 d_Bench_worked_1 (by rw [c23]; decide) (by rw [c23]; decide) (by rw [c23]; rfl) (by decide) ?_
    refine x_lconst 0 d_Bench_worked_226 (by decide) ?_
    obtain rfl := Option.some.inj h
    exact x_lreturn rfl d_Bench_worked_227 (Nat.le_refl _) (Nat.le_refl _) ⟨rfl, rfl⟩
  by_cases c24 : a0 = 11
  · refine x_tableIn 225 226 d_Bench_worked_1 (by rw [c24]; decide) (by rw [c24]; decide) (by rw [c24]; rfl) (by decide) ?_
    refine x_lconst 0 d_Bench_worked_226 (by decide) ?_
    obtain rfl := Option.some.inj h
    exact x_lreturn rfl d_Bench_worked_227 (Nat.le_refl _) (Nat.le_refl _) ⟨rfl, rfl⟩
  by_cases c25 : a0 = 12
  · refine x_tableIn 225 226 d_Bench_worked_1 (by rw [c25]; decide) (by rw [c25]; decide) (by rw [c25]; rfl) (by decide) ?_
    refine x_lconst 0 d_Bench_worked_226 (by decide) ?_
    obtain rfl := Option.some.inj h
    exact x_lreturn rfl d_Bench_worked_227 (Nat.le_refl _) (Nat.le_refl _) ⟨rfl, rfl⟩
  by_cases c26 : a0 = 13
  · refine x_tableIn 225 226 d_Bench_worked_1 (by rw [c26]; decide) (by rw [c26]; decide) (by rw [c26]; rfl) (by decide) ?_
    refine x_lconst 0 d_Bench_worked_226 (by decide) ?_
    obtain rfl := Option.some.inj h
    exact x_lreturn rfl d_Bench_worked_227 (Nat.le_refl _) (Nat.le_refl _) ⟨rfl, rfl⟩
  by_cases c27 : a0 = 14
  · refine x_tableIn 225 226 d_Bench_worked_1 (by rw [c27]; decide) (by rw [c27]; decide) (by rw [c27]; rfl) (by decide) ?_
    refine x_lconst 0 d_Bench_worked_226 (by decide) ?_
    obtain rfl := Option.some.inj h
    exact x_lreturn rfl d_Bench_worked_227 (Nat.le_refl _) (Nat.le_refl _) ⟨rfl, rfl⟩
  by_cases c28 : a0 = 15
  · refine x_tableIn 225 226 d_Bench_worked_1 (by rw [c28]; decide) (by rw [c28]; decide) (by rw [c28]; rfl) (by decide) ?_
    refine x_lconst 0 d_Bench_worked_226 (by decide) ?_
    obtain rfl := Option.some.inj h
    exact x_lreturn rfl d_Bench_worked_227 (Nat.le_refl _) (Nat.le_refl _) ⟨rfl, rfl⟩
  by_cases c29 : a0 = 16
  · refine x_tableIn 225 226 d_Bench_worked_1 (by rw [c29]; decide) (by rw [c29]; decide) (by rw [c29]; rfl) (by decide) ?_
    refine x_lconst 0 d_Bench_worked_226 (by decide) ?_
    obtain rfl := Option.some.inj h
    exact x_lreturn rfl d_Bench_worked_227 (Nat.le_refl _) (Nat.le_refl _) ⟨rfl, rfl⟩
  by_cases c30 : a0 = 17
  · refine x_tableIn 225 226 d_Bench_worked_1 (by rw [c30]; decide) (by rw [c30]; decide) (by rw [c30]; rfl) (by decide) ?_
    refine x_lconst 0 d_Bench_worked_226 (by decide) ?_
    obtain rfl := Option.some.inj h
    exact x_lreturn rfl d_Bench_worked_227 (Nat.le_refl _) (Nat.le_refl _) ⟨rfl, rfl⟩
  by_cases c31 : a0 = 18
  · refine x_tableIn 225 226 d_Bench_worked_1 (by rw [c31]; decide) (by rw [c31]; decide) (by rw [c31]; rfl) (by decide) ?_
    refine x_lconst 0 d_Bench_worked_226 (by decide) ?_
    obtain rfl := Option.some.inj h
    exact x_lreturn rfl d_Bench_worked_227 (Nat.le_refl _) (Nat.le_refl _) ⟨rfl, rfl⟩
  by_cases c32 : a0 = 19
  · refine x_tableIn 225 226 d_Bench_worked_1 (by rw [c32]; decide) (by rw [c32]; decide) (by rw [c32]; rfl) (by decide) ?_
    refine x_lconst 0 d_Bench_worked_226 (by decide) ?_
    obtain rfl := Option.some.inj h
    exact x_lreturn rfl d_Bench_worked_227 (Nat.le_refl _) (Nat.le_refl _) ⟨rfl, rfl⟩
  by_cases c33 : a0 = 20
  · refine x_tableIn 225 226 d_Bench_worked_1 (by rw [c33]; decide) (by rw [c33]; decide) (by rw [c33]; rfl) (by decide) ?_
    refine x_lconst 0 d_Bench_worked_226 (by decide) ?_
    obtain rfl := Option.some.inj h
    exact x_lreturn rfl d_Bench_worked_227 (Nat.le_refl _) (Nat.le_refl _) ⟨rfl, rfl⟩
  by_cases c34 : a0 = 21
  · refine x_tableIn 225 226 d_Bench_worked_1 (by rw [c34]; decide) (by rw [c34]; decide) (by rw [c34]; rfl) (by decide) ?_
    refine x_lconst 0 d_Bench_worked_226 (by decide) ?_
    obtain rfl := Option.some.inj h
    exact x_lreturn rfl d_Bench_worked_227 (Nat.le_refl _) (Nat.le_refl _) ⟨rfl, rfl⟩
  refine x_tableOut 226 d_Bench_worked_1 (by have n0 := lv_neT c1 (a := 6) rfl; have n1 := lv_neT c2 (a := 7) rfl; have n2 := lv_neT c3 (a := 22) rfl; have n3 := lv_neT c5 (a := 23) rfl; have n4 := lv_neT c7 (a := 24) rfl; have n5 := lv_neT c9 (a := 25) rfl; have n6 := lv_neT c11 (a := 26) rfl; have n7 := lv_neT c13 (a := 27) rfl; have n8 := lv_neT c15 (a := 28) rfl; have n9 := lv_neT c16 (a := 29) rfl; have n10 := lv_neT c17 (a := 30) rfl; have n11 := lv_neT c18 (a := 31) rfl; have n12 := lv_neT c21 (a := 8) rfl; have n13 := lv_neT c22 (a := 9) rfl; have n14 := lv_neT c23 (a := 10) rfl; have n15 := lv_neT c24 (a := 11) rfl; have n16 := lv_neT c25 (a := 12) rfl; have n17 := lv_neT c26 (a := 13) rfl; have n18 := lv_neT c27 (a := 14) rfl; have n19 := lv_neT c28 (a := 15) rfl; have n20 := lv_neT c29 (a := 16) rfl; have n21 := lv_neT c30 (a := 17) rfl; have n22 := lv_neT c31 (a := 18) rfl; have n23 := lv_neT c32 (a := 19) rfl; have n24 := lv_neT c33 (a := 20) rfl; have n25 := lv_neT c34 (a := 21) rfl; omega) (by decide) ?_
  refine x_lconst 0 d_Bench_worked_226 (by decide) ?_
  obtain rfl := Option.some.inj h
  exact x_lreturn rfl d_Bench_worked_227 (Nat.le_refl _) (Nat.le_refl _) ⟨rfl, rfl⟩
-- Bench_held
def f_Bench_held (a0 : Int64) : Int32 := (if (lg_cmp a0 1000000) ≤ 0 then (if 0 ≤ (lg_cmp a0 (-1000000)) then a0.toInt32 else (-1000000)) else 1000000)
theorem t_Bench_held (a0 : Int64) (V : xV) (L : xL) (res : Int32) (h : f_Bench_held a0 = res) : xRuns (1) M_Bench_held [.long a0] (SH, V, L) (fun o h' => o = some (.int res) ∧ h' = (SH, V, L)) := by
  refine xRuns_of (by decide) (Nat.le_of_ble_eq_true rfl) ?_
  unfold f_Bench_held at h
  show X M_Bench_held (xRm (1) M_Bench_held) (xZ M_Bench_held (fun o h' => o = some (.int res) ∧ h' = (SH, V, L))) SH V L 0 0 0 [(0, .long a0)] []
  refine x_lload_n 0 d_Bench_held_0 rfl rfl ?_
  refine x_ldc2 c_Bench_51 d_Bench_held_1 ?_
  refine x_lcmp d_Bench_held_4 ?_
  refine x_if_le 11 d_Bench_held_5 (by decide) (fun c1 => ?_) (fun c1 => ?_)
  · replace h := xpos c1 h
    refine x_lload_n 0 d_Bench_held_11 rfl rfl ?_
    refine x_ldc2 c_Bench_54 d_Bench_held_12 ?_
    refine x_lcmp d_Bench_held_15 ?_
    refine x_if_ge 24 d_Bench_held_16 (by decide) (fun c2 => ?_) (fun c2 => ?_)
    · replace h := xpos c2 h
      refine x_lload_n 0 d_Bench_held_24 rfl rfl ?_
      refine x_l2i d_Bench_held_25 ?_
      obtain rfl := h
      exact x_ireturn rfl d_Bench_held_26 (Nat.le_refl _) (Nat.le_refl _) ⟨rfl, rfl⟩
    · replace h := xneg c2 h
      refine x_ldc c_Bench_56 d_Bench_held_19 ?_
      refine x_goto 26 d_Bench_held_21 (by decide) ?_
      obtain rfl := h
      exact x_ireturn rfl d_Bench_held_26 (Nat.le_refl _) (Nat.le_refl _) ⟨rfl, rfl⟩
  · replace h := xneg c1 h
    refine x_ldc c_Bench_53 d_Bench_held_8 ?_
    obtain rfl := h
    exact x_ireturn rfl d_Bench_held_10 (Nat.le_refl _) (Nat.le_refl _) ⟨rfl, rfl⟩
-- Bench_run
def b_Bench_run_126 (q1 : Nat) (k31 : Int32 → Int32 → Int32 → xV → Option (Int32 × xV)) (v4 : Int32) (v5 : Int32) (v6 : Int32) (v7 : Int32) (V : xV) : Option (Int32 × xV) := (if 1 ≤ v5 then (if ¬ v7 = 8 then (if xI (v5 - 1) 40 = true then (if xI (v5 - 1) 40 = true then k31 v4 v5 (v6 + 1) (x2 V 53 ((v5 - 1).toNatClampNeg) (0 - (V 53 (v5 - 1).toNatClampNeg))) else none) else none) else (if xI (v5 - 1) 40 = true then (if xI (v5 - 1) 40 = true then k31 v4 v5 (v6 + 1) (x2 V 53 ((v5 - 1).toNatClampNeg) (1 - (V 53 (v5 - 1).toNatClampNeg))) else none) else none)) else some (0, V))
theorem tb_Bench_run_126 {L : xL} (q1 : Nat) (hq1 : lawB q1 = true) (k31 : Int32 → Int32 → Int32 → xV → Option (Int32 × xV)) (res : Int32 × xV) (hk31 : ∀ (v4 : Int32) (v5 : Int32) (v6 : Int32) (V : xV), k31 v4 v5 v6 V = some res → X M_Bench_run (xRm (2) M_Bench_run) (xZ M_Bench_run (fun o h' => o = some (.int res.1) ∧ h' = (SH, res.2, L))) SH V L 0 0 31 [(0, .ref 52), (3, .ref (q1 + 1)), (4, .int v4), (5, .int v5), (6, .int v6)] []) (v4 : Int32) (v5 : Int32) (v6 : Int32) (v7 : Int32) (V : xV) (h : b_Bench_run_126 q1 k31 v4 v5 v6 v7 V = some res) : X M_Bench_run (xRm (2) M_Bench_run) (xZ M_Bench_run (fun o h' => o = some (.int res.1) ∧ h' = (SH, res.2, L))) SH V L 0 0 126 [(0, .ref 52), (3, .ref (q1 + 1)), (4, .int v4), (5, .int v5), (6, .int v6), (7, .int v7)] [] := by
  unfold b_Bench_run_126 at h
  refine x_iload 3 d_Bench_run_126 rfl ?_
  refine x_iconst 1 d_Bench_run_128 (by decide) ?_
  refine x_icmp_ge 134 d_Bench_run_129 (by decide) (fun c26 => ?_) (fun c26 => ?_)
  · replace h := xpos c26 h
    refine x_aload_n 0 d_Bench_run_134 rfl rfl ?_
    refine x_getP (q := 53) f_Bench_9 sh_52 rfl d_Bench_run_135 ?_
    refine x_iload 3 d_Bench_run_138 rfl ?_
    refine x_iconst 1 d_Bench_run_140 (by decide) ?_
    refine x_isub d_Bench_run_141 ?_
    refine x_iload 5 d_Bench_run_142 rfl ?_
    refine x_bipush 8 d_Bench_run_144 (by decide) ?_
    refine x_icmp_ne 163 d_Bench_run_146 (by decide) (fun c27 => ?_) (fun c27 => ?_)
    · replace h := xpos c27 h
      refine x_aload_n 0 d_Bench_run_163 rfl rfl ?_
      refine x_getP (q := 53) f_Bench_9 sh_52 rfl d_Bench_run_164 ?_
      refine x_iload 3 d_Bench_run_167 rfl ?_
      refine x_iconst 1 d_Bench_run_169 (by decide) ?_
      refine x_isub d_Bench_run_170 ?_
      obtain ⟨c28, h⟩ := xguard h
      refine x_iaload sh_53 c28 d_Bench_run_171 ?_
      refine x_ineg d_Bench_run_172 ?_
      obtain ⟨c29, h⟩ := xguard h
      refine x_iastore sh_53 c29 d_Bench_run_173 ?_
      refine x_goto 225 d_Bench_run_174 (by decide) ?_
      refine x_iinc 4 1 [(6, .int (v6 + 1)), (0, .ref 52), (3, .ref (q1 + 1)), (4, .int v4), (5, .int v5), (7, .int v7)] d_Bench_run_225 rfl (by decide) (Nat.le_of_ble_eq_true rfl) rfl ?_
      refine x_goto 31 d_Bench_run_228 (by decide) ?_
      refine x_pick [1, 2, 3, 4, 0] rfl ?_
      exact hk31 v4 v5 (v6 + 1) (x2 V 53 ((v5 - 1).toNatClampNeg) (0 - (V 53 (v5 - 1).toNatClampNeg))) h
    · replace h := xneg c27 h
      refine x_iconst 1 d_Bench_run_149 (by decide) ?_
      refine x_aload_n 0 d_Bench_run_150 rfl rfl ?_
      refine x_getP (q := 53) f_Bench_9 sh_52 rfl d_Bench_run_151 ?_
      refine x_iload 3 d_Bench_run_154 rfl ?_
      refine x_iconst 1 d_Bench_run_156 (by decide) ?_
      refine x_isub d_Bench_run_157 ?_
      obtain ⟨c30, h⟩ := xguard h
      refine x_iaload sh_53 c30 d_Bench_run_158 ?_
      refine x_isub d_Bench_run_159 ?_
      refine x_goto 173 d_Bench_run_160 (by decide) ?_
      obtain ⟨c31, h⟩ := xguard h
      refine x_iastore sh_53 c31 d_Bench_run_173 ?_
      refine x_goto 225 d_Bench_run_174 (by decide) ?_
      refine x_iinc 4 1 [(6, .int (v6 + 1)), (0, .ref 52), (3, .ref (q1 + 1)), (4, .int v4), (5, .int v5), (7, .int v7)] d_Bench_run_225 rfl (by decide) (Nat.le_of_ble_eq_true rfl) rfl ?_
      refine x_goto 31 d_Bench_run_228 (by decide) ?_
      refine x_pick [1, 2, 3, 4, 0] rfl ?_
      exact hk31 v4 v5 (v6 + 1) (x2 V 53 ((v5 - 1).toNatClampNeg) (1 - (V 53 (v5 - 1).toNatClampNeg))) h
  · replace h := xneg c26 h
    refine x_iconst 0 d_Bench_run_132 (by decide) ?_
    obtain rfl := Option.some.inj h
    exact x_ireturn rfl d_Bench_run_133 (Nat.le_refl _) (Nat.le_refl _) ⟨rfl, rfl⟩
def b_Bench_run_112 (q1 : Nat) (k31 : Int32 → Int32 → Int32 → xV → Option (Int32 × xV)) (v4 : Int32) (v5 : Int32) (v6 : Int32) (v7 : Int32) (V : xV) : Option (Int32 × xV) := (if v7 = 8 then b_Bench_run_126 q1 k31 v4 v5 v6 v7 V else (if ¬ v7 = 38 then (if 2 ≤ v5 then (if xI (v5 - 2) 40 = true then (if xI (v5 - 1) 40 = true then (Option.bind (f_Bench_worked v7 ((V 53 (v5 - 2).toNatClampNeg).toInt64) ((V 53 (v5 - 1).toNatClampNeg).toInt64)) fun p22 => (if xI (v5 - 2) 40 = true then k31 v4 (v5 + (-1)) (v6 + 1) (x2 V 53 ((v5 - 2).toNatClampNeg) (f_Bench_held p22)) else none)) else none) else none) else some (0, V)) else b_Bench_run_126 q1 k31 v4 v5 v6 v7 V))
theorem tb_Bench_run_112 {L : xL} (q1 : Nat) (hq1 : lawB q1 = true) (k31 : Int32 → Int32 → Int32 → xV → Option (Int32 × xV)) (res : Int32 × xV) (hk31 : ∀ (v4 : Int32) (v5 : Int32) (v6 : Int32) (V : xV), k31 v4 v5 v6 V = some res → X M_Bench_run (xRm (2) M_Bench_run) (xZ M_Bench_run (fun o h' => o = some (.int res.1) ∧ h' = (SH, res.2, L))) SH V L 0 0 31 [(0, .ref 52), (3, .ref (q1 + 1)), (4, .int v4), (5, .int v5), (6, .int v6)] []) (v4 : Int32) (v5 : Int32) (v6 : Int32) (v7 : Int32) (V : xV) (h : b_Bench_run_112 q1 k31 v4 v5 v6 v7 V = some res) : X M_Bench_run (xRm (2) M_Bench_run) (xZ M_Bench_run (fun o h' => o = some (.int res.1) ∧ h' = (SH, res.2, L))) SH V L 0 0 112 [(0, .ref 52), (3, .ref (q1 + 1)), (4, .int v4), (5, .int v5), (6, .int v6), (7, .int v7)] [] := by
  unfold b_Bench_run_112 at h
  refine x_iload 5 d_Bench_run_112 rfl ?_
  refine x_bipush 8 d_Bench_run_114 (by decide) ?_
  refine x_icmp_eq 126 d_Bench_run_116 (by decide) (fun c17 => ?_) (fun c17 => ?_)
  · replace h := xpos c17 h
    exact tb_Bench_run_126 (L := L) q1 hq1 k31 res hk31 v4 v5 v6 v7 V h
  · replace h := xneg c17 h
    refine x_iload 5 d_Bench_run_119 rfl ?_
    refine x_bipush 38 d_Bench_run_121 (by decide) ?_
    refine x_icmp_ne 177 d_Bench_run_123 (by decide) (fun c18 => ?_) (fun c18 => ?_)
    · replace h := xpos c18 h
      refine x_iload 3 d_Bench_run_177 rfl ?_
      refine x_iconst 2 d_Bench_run_179 (by decide) ?_
      refine x_icmp_ge 185 d_Bench_run_180 (by decide) (fun c19 => ?_) (fun c19 => ?_)
      · replace h := xpos c19 h
        refine x_aload_n 0 d_Bench_run_185 rfl rfl ?_
        refine x_getP (q := 53) f_Bench_9 sh_52 rfl d_Bench_run_186 ?_
        refine x_iload 3 d_Bench_run_189 rfl ?_
        refine x_iconst 2 d_Bench_run_191 (by decide) ?_
        refine x_isub d_Bench_run_192 ?_
        refine x_iload 5 d_Bench_run_193 rfl ?_
        refine x_aload_n 0 d_Bench_run_195 rfl rfl ?_
        refine x_getP (q := 53) f_Bench_9 sh_52 rfl d_Bench_run_196 ?_
        refine x_iload 3 d_Bench_run_199 rfl ?_
        refine x_iconst 2 d_Bench_run_201 (by decide) ?_
        refine x_isub d_Bench_run_202 ?_
        obtain ⟨c20, h⟩ := xguard h
        refine x_iaload sh_53 c20 d_Bench_run_203 ?_
        refine x_i2l d_Bench_run_204 ?_
        refine x_aload_n 0 d_Bench_run_205 rfl rfl ?_
        refine x_getP (q := 53) f_Bench_9 sh_52 rfl d_Bench_run_206 ?_
        refine x_iload 3 d_Bench_run_209 rfl ?_
        refine x_iconst 1 d_Bench_run_211 (by decide) ?_
        refine x_isub d_Bench_run_212 ?_
        obtain ⟨c21, h⟩ := xguard h
        refine x_iaload sh_53 c21 d_Bench_run_213 ?_
        refine x_i2l d_Bench_run_214 ?_
        obtain ⟨p22, e23, h⟩ := xbind h
        refine x_callS0 e_Bench_43 (t_Bench_worked v7 ((V 53 (v5 - 2).toNatClampNeg).toInt64) ((V 53 (v5 - 1).toNatClampNeg).toInt64) V L _ e23) rfl rfl rfl (Nat.le_of_ble_eq_true rfl) (xfit_of (by omega) (Nat.le_of_ble_eq_true rfl)) (Nat.zero_le _) (Nat.zero_le _) d_Bench_run_215 ?_
        refine x_callS0 e_Bench_47 (t_Bench_held p22 V L _ rfl) rfl rfl rfl (Nat.le_of_ble_eq_true rfl) (xfit_of (by omega) (Nat.le_of_ble_eq_true rfl)) (Nat.zero_le _) (Nat.zero_le _) d_Bench_run_218 ?_
        obtain ⟨c25, h⟩ := xguard h
        refine x_iastore sh_53 c25 d_Bench_run_221 ?_
        refine x_iinc 3 (-1) [(5, .int (v5 + (-1))), (0, .ref 52), (3, .ref (q1 + 1)), (4, .int v4), (6, .int v6), (7, .int v7)] d_Bench_run_222 rfl (by decide) (Nat.le_of_ble_eq_true rfl) rfl ?_
        refine x_iinc 4 1 [(6, .int (v6 + 1)), (5, .int (v5 + (-1))), (0, .ref 52), (3, .ref (q1 + 1)), (4, .int v4), (7, .int v7)] d_Bench_run_225 rfl (by decide) (Nat.le_of_ble_eq_true rfl) rfl ?_
        refine x_goto 31 d_Bench_run_228 (by decide) ?_
        refine x_pick [2, 3, 4, 1, 0] rfl ?_
        exact hk31 v4 (v5 + (-1)) (v6 + 1) (x2 V 53 ((v5 - 2).toNatClampNeg) (f_Bench_held p22)) h
      · replace h := xneg c19 h
        refine x_iconst 0 d_Bench_run_183 (by decide) ?_
        obtain rfl := Option.some.inj h
        exact x_ireturn rfl d_Bench_run_184 (Nat.le_refl _) (Nat.le_refl _) ⟨rfl, rfl⟩
    · replace h := xneg c18 h
      exact tb_Bench_run_126 (L := L) q1 hq1 k31 res hk31 v4 v5 v6 v7 V h
def b_Bench_run_65 (q1 : Nat) (k31 : Int32 → Int32 → Int32 → xV → Option (Int32 × xV)) (v4 : Int32) (v5 : Int32) (v6 : Int32) (v7 : Int32) (V : xV) : Option (Int32 × xV) := (if v5 < 40 then (if 0 ≤ v7 then (if xI (v7 - 9) 13 = true then (if xI v5 40 = true then k31 v4 (v5 + 1) (v6 + 1) (x2 V 53 v5.toNatClampNeg (V 54 (v7 - 9).toNatClampNeg)) else none) else none) else (if xI v6 300 = true then (if xI v5 40 = true then k31 v4 (v5 + 1) (v6 + 1) (x2 V 53 v5.toNatClampNeg (V (q1 + 1) v6.toNatClampNeg)) else none) else none)) else some (0, V))
theorem tb_Bench_run_65 {L : xL} (q1 : Nat) (hq1 : lawB q1 = true) (k31 : Int32 → Int32 → Int32 → xV → Option (Int32 × xV)) (res : Int32 × xV) (hk31 : ∀ (v4 : Int32) (v5 : Int32) (v6 : Int32) (V : xV), k31 v4 v5 v6 V = some res → X M_Bench_run (xRm (2) M_Bench_run) (xZ M_Bench_run (fun o h' => o = some (.int res.1) ∧ h' = (SH, res.2, L))) SH V L 0 0 31 [(0, .ref 52), (3, .ref (q1 + 1)), (4, .int v4), (5, .int v5), (6, .int v6)] []) (v4 : Int32) (v5 : Int32) (v6 : Int32) (v7 : Int32) (V : xV) (h : b_Bench_run_65 q1 k31 v4 v5 v6 v7 V = some res) : X M_Bench_run (xRm (2) M_Bench_run) (xZ M_Bench_run (fun o h' => o = some (.int res.1) ∧ h' = (SH, res.2, L))) SH V L 0 0 65 [(0, .ref 52), (3, .ref (q1 + 1)), (4, .int v4), (5, .int v5), (6, .int v6), (7, .int v7)] [] := by
  unfold b_Bench_run_65 at h
  refine x_iload 3 d_Bench_run_65 rfl ?_
  refine x_aload_n 0 d_Bench_run_67 rfl rfl ?_
  refine x_getP (q := 53) f_Bench_9 sh_52 rfl d_Bench_run_68 ?_
  refine x_alen 40 sh_53 (by decide) (by decide) d_Bench_run_71 ?_
  refine x_icmp_lt 77 d_Bench_run_72 (by decide) (fun c11 => ?_) (fun c11 => ?_)
  · replace h := xpos c11 h
    refine x_aload_n 0 d_Bench_run_77 rfl rfl ?_
    refine x_getP (q := 53) f_Bench_9 sh_52 rfl d_Bench_run_78 ?_
    refine x_iload 3 d_Bench_run_81 rfl ?_
    refine x_iload 5 d_Bench_run_83 rfl ?_
    refine x_if_ge 95 d_Bench_run_85 (by decide) (fun c12 => ?_) (fun c12 => ?_)
    · replace h := xpos c12 h
      refine x_aload_n 0 d_Bench_run_95 rfl rfl ?_
      refine x_getP (q := 54) f_Bench_15 sh_52 rfl d_Bench_run_96 ?_
      refine x_iload 5 d_Bench_run_99 rfl ?_
      refine x_bipush 9 d_Bench_run_101 (by decide) ?_
      refine x_isub d_Bench_run_103 ?_
      obtain ⟨c13, h⟩ := xguard h
      refine x_iaload sh_54 c13 d_Bench_run_104 ?_
      obtain ⟨c14, h⟩ := xguard h
      refine x_iastore sh_53 c14 d_Bench_run_105 ?_
      refine x_iinc 3 1 [(5, .int (v5 + 1)), (0, .ref 52), (3, .ref (q1 + 1)), (4, .int v4), (6, .int v6), (7, .int v7)] d_Bench_run_106 rfl (by decide) (Nat.le_of_ble_eq_true rfl) rfl ?_
      refine x_goto 225 d_Bench_run_109 (by decide) ?_
      refine x_iinc 4 1 [(6, .int (v6 + 1)), (5, .int (v5 + 1)), (0, .ref 52), (3, .ref (q1 + 1)), (4, .int v4), (7, .int v7)] d_Bench_run_225 rfl (by decide) (Nat.le_of_ble_eq_true rfl) rfl ?_
      refine x_goto 31 d_Bench_run_228 (by decide) ?_
      refine x_pick [2, 3, 4, 1, 0] rfl ?_
      exact hk31 v4 (v5 + 1) (v6 + 1) (x2 V 53 v5.toNatClampNeg (V 54 (v7 - 9).toNatClampNeg)) h
    · replace h := xneg c12 h
      refine x_aload_n 1 d_Bench_run_88 rfl rfl ?_
      refine x_iload 4 d_Bench_run_89 rfl ?_
      obtain ⟨c15, h⟩ := xguard h
      refine x_iaload (sh_law1 hq1) c15 d_Bench_run_91 ?_
      refine x_goto 105 d_Bench_run_92 (by decide) ?_
      obtain ⟨c16, h⟩ := xguard h
      refine x_iastore sh_53 c16 d_Bench_run_105 ?_
      refine x_iinc 3 1 [(5, .int (v5 + 1)), (0, .ref 52), (3, .ref (q1 + 1)), (4, .int v4), (6, .int v6), (7, .int v7)] d_Bench_run_106 rfl (by decide) (Nat.le_of_ble_eq_true rfl) rfl ?_
      refine x_goto 225 d_Bench_run_109 (by decide) ?_
      refine x_iinc 4 1 [(6, .int (v6 + 1)), (5, .int (v5 + 1)), (0, .ref 52), (3, .ref (q1 + 1)), (4, .int v4), (7, .int v7)] d_Bench_run_225 rfl (by decide) (Nat.le_of_ble_eq_true rfl) rfl ?_
      refine x_goto 31 d_Bench_run_228 (by decide) ?_
      refine x_pick [2, 3, 4, 1, 0] rfl ?_
      exact hk31 v4 (v5 + 1) (v6 + 1) (x2 V 53 v5.toNatClampNeg (V (q1 + 1) v6.toNatClampNeg)) h
  · replace h := xneg c11 h
    refine x_iconst 0 d_Bench_run_75 (by decide) ?_
    obtain rfl := Option.some.inj h
    exact x_ireturn rfl d_Bench_run_76 (Nat.le_refl _) (Nat.le_refl _) ⟨rfl, rfl⟩
def b_Bench_run_31 (q1 : Nat) (k31 : Int32 → Int32 → Int32 → xV → Option (Int32 × xV)) (v4 : Int32) (v5 : Int32) (v6 : Int32) (V : xV) : Option (Int32 × xV) := (if v4 ≤ v6 then (if v5 ≤ 0 then some (0, V) else some (V 53 0, V)) else (if xI v6 300 = true then (if ((-1) - (V (q1 + 1) v6.toNatClampNeg)) < 0 then b_Bench_run_65 q1 k31 v4 v5 v6 ((-1) - (V (q1 + 1) v6.toNatClampNeg)) V else (if ((-1) - (V (q1 + 1) v6.toNatClampNeg)) < 9 then b_Bench_run_112 q1 k31 v4 v5 v6 ((-1) - (V (q1 + 1) v6.toNatClampNeg)) V else (if 22 ≤ ((-1) - (V (q1 + 1) v6.toNatClampNeg)) then b_Bench_run_112 q1 k31 v4 v5 v6 ((-1) - (V (q1 + 1) v6.toNatClampNeg)) V else b_Bench_run_65 q1 k31 v4 v5 v6 ((-1) - (V (q1 + 1) v6.toNatClampNeg)) V))) else none))
theorem tb_Bench_run_31 {L : xL} (q1 : Nat) (hq1 : lawB q1 = true) (k31 : Int32 → Int32 → Int32 → xV → Option (Int32 × xV)) (res : Int32 × xV) (hk31 : ∀ (v4 : Int32) (v5 : Int32) (v6 : Int32) (V : xV), k31 v4 v5 v6 V = some res → X M_Bench_run (xRm (2) M_Bench_run) (xZ M_Bench_run (fun o h' => o = some (.int res.1) ∧ h' = (SH, res.2, L))) SH V L 0 0 31 [(0, .ref 52), (3, .ref (q1 + 1)), (4, .int v4), (5, .int v5), (6, .int v6)] []) (v4 : Int32) (v5 : Int32) (v6 : Int32) (V : xV) (h : b_Bench_run_31 q1 k31 v4 v5 v6 V = some res) : X M_Bench_run (xRm (2) M_Bench_run) (xZ M_Bench_run (fun o h' => o = some (.int res.1) ∧ h' = (SH, res.2, L))) SH V L 0 0 31 [(0, .ref 52), (3, .ref (q1 + 1)), (4, .int v4), (5, .int v5), (6, .int v6)] [] := by
  unfold b_Bench_run_31 at h
  refine x_iload 4 d_Bench_run_31 rfl ?_
  refine x_iload 2 d_Bench_run_33 rfl ?_
  refine x_icmp_ge 231 d_Bench_run_35 (by decide) (fun c5 => ?_) (fun c5 => ?_)
  · replace h := xpos c5 h
    refine x_iload 3 d_Bench_run_231 rfl ?_
    refine x_if_le 245 d_Bench_run_233 (by decide) (fun c6 => ?_) (fun c6 => ?_)
    · replace h := xpos c6 h
      refine x_iconst 0 d_Bench_run_245 (by decide) ?_
      obtain rfl := Option.some.inj h
      exact x_ireturn rfl d_Bench_run_246 (Nat.le_refl _) (Nat.le_refl _) ⟨rfl, rfl⟩
    · replace h := xneg c6 h
      refine x_aload_n 0 d_Bench_run_236 rfl rfl ?_
      refine x_getP (q := 53) f_Bench_9 sh_52 rfl d_Bench_run_237 ?_
      refine x_iconst 0 d_Bench_run_240 (by decide) ?_
      refine x_ialoadC 0 sh_53 (by decide) (by decide) d_Bench_run_241 ?_
      refine x_goto 246 d_Bench_run_242 (by decide) ?_
      obtain rfl := Option.some.inj h
      exact x_ireturn rfl d_Bench_run_246 (Nat.le_refl _) (Nat.le_refl _) ⟨rfl, rfl⟩
  · replace h := xneg c5 h
    refine x_iconst (-1) d_Bench_run_38 (by decide) ?_
    refine x_aload_n 1 d_Bench_run_39 rfl rfl ?_
    refine x_iload 4 d_Bench_run_40 rfl ?_
    obtain ⟨c7, h⟩ := xguard h
    refine x_iaload (sh_law1 hq1) c7 d_Bench_run_42 ?_
    refine x_isub d_Bench_run_43 ?_
    refine x_istore [(7, .int ((-1) - (V (q1 + 1) v6.toNatClampNeg))), (0, .ref 52), (3, .ref (q1 + 1)), (4, .int v4), (5, .int v5), (6, .int v6)] d_Bench_run_44 (Nat.le_of_ble_eq_true rfl) rfl ?_
    refine x_iload 0 d_Bench_run_46 rfl ?_
    refine x_if_lt 65 d_Bench_run_48 (by decide) (fun c8 => ?_) (fun c8 => ?_)
    · replace h := xpos c8 h
      refine x_pick [1, 2, 3, 4, 5, 0] rfl ?_
      exact tb_Bench_run_65 (L := L) q1 hq1 k31 res hk31 v4 v5 v6 ((-1) - (V (q1 + 1) v6.toNatClampNeg)) V h
    · replace h := xneg c8 h
      refine x_iload 0 d_Bench_run_51 rfl ?_
      refine x_bipush 9 d_Bench_run_53 (by decide) ?_
      refine x_icmp_lt 112 d_Bench_run_55 (by decide) (fun c9 => ?_) (fun c9 => ?_)
      · replace h := xpos c9 h
        refine x_pick [1, 2, 3, 4, 5, 0] rfl ?_
        exact tb_Bench_run_112 (L := L) q1 hq1 k31 res hk31 v4 v5 v6 ((-1) - (V (q1 + 1) v6.toNatClampNeg)) V h
      · replace h := xneg c9 h
        refine x_iload 0 d_Bench_run_58 rfl ?_
        refine x_bipush 22 d_Bench_run_60 (by decide) ?_
        refine x_icmp_ge 112 d_Bench_run_62 (by decide) (fun c10 => ?_) (fun c10 => ?_)
        · replace h := xpos c10 h
          refine x_pick [1, 2, 3, 4, 5, 0] rfl ?_
          exact tb_Bench_run_112 (L := L) q1 hq1 k31 res hk31 v4 v5 v6 ((-1) - (V (q1 + 1) v6.toNatClampNeg)) V h
        · replace h := xneg c10 h
          refine x_pick [1, 2, 3, 4, 5, 0] rfl ?_
          exact tb_Bench_run_65 (L := L) q1 hq1 k31 res hk31 v4 v5 v6 ((-1) - (V (q1 + 1) v6.toNatClampNeg)) V h
def g_Bench_run_31 (q1 : Nat) : Nat → Int32 → Int32 → Int32 → xV → Option (Int32 × xV)
  | 0, _, _, _, _ => none
  | n + 1, v4, v5, v6, V => b_Bench_run_31 q1 (g_Bench_run_31 q1 n) v4 v5 v6 V
theorem tg_Bench_run_31 {L : xL} (q1 : Nat) (hq1 : lawB q1 = true) (res : Int32 × xV)  : ∀ (n : Nat) (v4 : Int32) (v5 : Int32) (v6 : Int32) (V : xV), g_Bench_run_31 q1 n v4 v5 v6 V = some res → X M_Bench_run (xRm (2) M_Bench_run) (xZ M_Bench_run (fun o h' => o = some (.int res.1) ∧ h' = (SH, res.2, L))) SH V L 0 0 31 [(0, .ref 52), (3, .ref (q1 + 1)), (4, .int v4), (5, .int v5), (6, .int v6)] []
  | 0, _, _, _, _, h => by cases h
  | n + 1, v4, v5, v6, V, h => tb_Bench_run_31 (L := L) q1 hq1 (g_Bench_run_31 q1 n) res (tg_Bench_run_31 (L := L) q1 hq1 res n) v4 v5 v6 V h
def f_Bench_run (q1 : Nat) (a2 : Int32) (V : xV) : Option (Int32 × xV) := (Option.bind (f_Law_stopOf q1 a2 V) fun p1 => (Option.bind (f_Law_startOf q1 a2 V) fun p3 => g_Bench_run_31 q1 2000 (xmin 300 p1) 0 (xmax 0 p3) V))
theorem t_Bench_run (q1 : Nat) (a2 : Int32) (hq1 : lawB q1 = true) (V : xV) (L : xL) (res : Int32 × xV) (h : f_Bench_run q1 a2 V = some res) : xRuns (2) M_Bench_run [.ref 52, .ref q1, .int a2] (SH, V, L) (fun o h' => o = some (.int res.1) ∧ h' = (SH, res.2, L)) := by
  refine xRuns_of (by decide) (Nat.le_of_ble_eq_true rfl) ?_
  unfold f_Bench_run at h
  show X M_Bench_run (xRm (2) M_Bench_run) (xZ M_Bench_run (fun o h' => o = some (.int res.1) ∧ h' = (SH, res.2, L))) SH V L 0 0 0 [(0, .ref 52), (1, .ref q1), (2, .int a2)] []
  refine x_aload_n 1 d_Bench_run_0 rfl rfl ?_
  refine x_getP (q := q1 + 1) f_Bench_22 (sh_law hq1) rfl d_Bench_run_1 ?_
  refine x_astore_n [(3, .ref (q1 + 1)), (0, .ref 52), (1, .ref q1), (2, .int a2)] d_Bench_run_4 rfl (Nat.le_of_ble_eq_true rfl) rfl ?_
  refine x_aload_n 0 d_Bench_run_5 rfl rfl ?_
  refine x_alen 300 (sh_law1 hq1) (by decide) (by decide) d_Bench_run_6 ?_
  refine x_aload_n 2 d_Bench_run_7 rfl rfl ?_
  refine x_iload_n 3 d_Bench_run_8 rfl rfl ?_
  obtain ⟨p1, e2, h⟩ := xbind h
  refine x_callV0 e_Bench_27 (sh_law hq1) rfl (t_Law_stopOf q1 a2 hq1 V L _ e2) rfl rfl rfl (Nat.le_of_ble_eq_true rfl) (xfit_of (by omega) (Nat.le_of_ble_eq_true rfl)) (Nat.zero_le _) (Nat.zero_le _) d_Bench_run_9 ?_
  refine x_min0 li_Bench_31 (xlib_of (by omega)) (Nat.le_of_ble_eq_true rfl) d_Bench_run_12 ?_
  refine x_istore [(4, .int (xmin 300 p1)), (3, .ref (q1 + 1)), (0, .ref 52), (1, .ref q1), (2, .int a2)] d_Bench_run_15 (Nat.le_of_ble_eq_true rfl) rfl ?_
  refine x_iconst 0 d_Bench_run_17 (by decide) ?_
  refine x_istore [(5, .int 0), (4, .int (xmin 300 p1)), (3, .ref (q1 + 1)), (0, .ref 52), (1, .ref q1), (2, .int a2)] d_Bench_run_18 (Nat.le_of_ble_eq_true rfl) rfl ?_
  refine x_iconst 0 d_Bench_run_20 (by decide) ?_
  refine x_aload_n 4 d_Bench_run_21 rfl rfl ?_
  refine x_iload_n 5 d_Bench_run_22 rfl rfl ?_
  obtain ⟨p3, e4, h⟩ := xbind h
  refine x_callV0 e_Bench_37 (sh_law hq1) rfl (t_Law_startOf q1 a2 hq1 V L _ e4) rfl rfl rfl (Nat.le_of_ble_eq_true rfl) (xfit_of (by omega) (Nat.le_of_ble_eq_true rfl)) (Nat.zero_le _) (Nat.zero_le _) d_Bench_run_23 ?_
  refine x_max0 li_Bench_40 (xlib_of (by omega)) (Nat.le_of_ble_eq_true rfl) d_Bench_run_26 ?_
  refine x_istore [(6, .int (xmax 0 p3)), (5, .int 0), (4, .int (xmin 300 p1)), (3, .ref (q1 + 1)), (0, .ref 52), (1, .ref q1), (2, .int a2)] d_Bench_run_29 (Nat.le_of_ble_eq_true rfl) rfl ?_
  refine x_pick [4, 3, 2, 1, 0] rfl ?_
  exact tg_Bench_run_31 (L := L) q1 hq1 res _ (xmin 300 p1) 0 (xmax 0 p3) V h
-- Court_comesTo
def f_Court_comesTo (a1 : Int32) (V : xV) : Option (Int32 × xV) := (if ¬ a1 = (V 51 1) then (Option.bind (f_Shelf_ruling V) fun p2 => (if lawB p2 = true then (Option.bind (f_Bench_run p2 a1 V) fun p5 => some (p5.1, p5.2)) else none)) else some (0, V))
theorem t_Court_comesTo (a1 : Int32) (V : xV) (L : xL) (res : Int32 × xV) (h : f_Court_comesTo a1 V = some res) : xRuns (3) M_Court_comesTo [.ref 51, .int a1] (SH, V, L) (fun o h' => o = some (.int res.1) ∧ h' = (SH, res.2, L)) := by
  refine xRuns_of (by decide) (Nat.le_of_ble_eq_true rfl) ?_
  unfold f_Court_comesTo at h
  show X M_Court_comesTo (xRm (3) M_Court_comesTo) (xZ M_Court_comesTo (fun o h' => o = some (.int res.1) ∧ h' = (SH, res.2, L))) SH V L 0 0 0 [(0, .ref 51), (1, .int a1)] []
  refine x_iload_n 1 d_Court_comesTo_0 rfl rfl ?_
  refine x_aload_n 0 d_Court_comesTo_1 rfl rfl ?_
  refine x_getI f_Court_9 sh_51 rfl d_Court_comesTo_2 ?_
  refine x_icmp_ne 12 d_Court_comesTo_5 (by decide) (fun c1 => ?_) (fun c1 => ?_)
  · replace h := xpos c1 h
    refine x_aload_n 0 d_Court_comesTo_12 rfl rfl ?_
    refine x_getP (q := 52) f_Court_18 sh_51 rfl d_Court_comesTo_13 ?_
    refine x_aload_n 0 d_Court_comesTo_16 rfl rfl ?_
    refine x_getP (q := 19) f_Court_33 sh_51 rfl d_Court_comesTo_17 ?_
    obtain ⟨p2, e3, h⟩ := xbind h
    refine x_callV0 e_Court_122 sh_19 rfl (t_Shelf_ruling V L _ e3) rfl rfl rfl (Nat.le_of_ble_eq_true rfl) (xfit_of (by omega) (Nat.le_of_ble_eq_true rfl)) (Nat.zero_le _) (Nat.zero_le _) d_Court_comesTo_20 ?_
    obtain ⟨c4, h⟩ := xguard h
    refine x_iload_n 1 d_Court_comesTo_23 rfl rfl ?_
    obtain ⟨p5, e6, h⟩ := xbind h
    refine x_callV0 e_Court_128 sh_52 rfl (t_Bench_run p2 a1 c4 V L _ e6) rfl rfl rfl (Nat.le_of_ble_eq_true rfl) (xfit_of (by omega) (Nat.le_of_ble_eq_true rfl)) (Nat.zero_le _) (Nat.zero_le _) d_Court_comesTo_24 ?_
    obtain rfl := Option.some.inj h
    exact x_ireturn rfl d_Court_comesTo_27 (Nat.le_refl _) (Nat.le_refl _) ⟨rfl, rfl⟩
  · replace h := xneg c1 h
    refine x_iconst 0 d_Court_comesTo_8 (by decide) ?_
    refine x_goto 27 d_Court_comesTo_9 (by decide) ?_
    obtain rfl := Option.some.inj h
    exact x_ireturn rfl d_Court_comesTo_27 (Nat.le_refl _) (Nat.le_refl _) ⟨rfl, rfl⟩
-- Court_warrantFor
def f_Court_warrantFor (a1 : Int32) (a2 : Int32) (V : xV) : Option (Int32 × xV) := (Option.bind (f_Bench_tell 9 a1 V) fun p1 => (Option.bind (f_Bench_tell 10 a2 p1) fun p3 => (Option.bind (f_Rolls_lastOf a1 a2 p3) fun p5 => (Option.bind (f_Bench_tell 11 p5 p3) fun p7 => (Option.bind (f_Rolls_seenOn a1 p7) fun p9 => (Option.bind (f_Bench_tell 12 p9 p7) fun p11 => (Option.bind (f_Rolls_skyOf a1 p11) fun p13 => (Option.bind (f_Bench_tell 13 p13 p11) fun p15 => (Option.bind (f_Court_comesTo 0 p15) fun p17 => some (p17.1, p17.2))))))))))
theorem t_Court_warrantFor (a1 : Int32) (a2 : Int32) (V : xV) (L : xL) (res : Int32 × xV) (h : f_Court_warrantFor a1 a2 V = some res) : xRuns (4) M_Court_warrantFor [.ref 51, .int a1, .int a2] (SH, V, L) (fun o h' => o = some (.int res.1) ∧ h' = (SH, res.2, L)) := by
  refine xRuns_of (by decide) (Nat.le_of_ble_eq_true rfl) ?_
  unfold f_Court_warrantFor at h
  show X M_Court_warrantFor (xRm (4) M_Court_warrantFor) (xZ M_Court_warrantFor (fun o h' => o = some (.int res.1) ∧ h' = (SH, res.2, L))) SH V L 0 0 0 [(0, .ref 51), (1, .int a1), (2, .int a2)] []
  refine x_aload_n 0 d_Court_warrantFor_0 rfl rfl ?_
  refine x_getP (q := 52) f_Court_18 sh_51 rfl d_Court_warrantFor_1 ?_
  refine x_bipush 9 d_Court_warrantFor_4 (by decide) ?_
  refine x_iload_n 1 d_Court_warrantFor_6 rfl rfl ?_
  obtain ⟨p1, e2, h⟩ := xbind h
  refine x_callV0v e_Court_60 sh_52 rfl (t_Bench_tell 9 a1 V L _ e2) rfl rfl rfl (Nat.le_of_ble_eq_true rfl) (xfit_of (by omega) (Nat.le_of_ble_eq_true rfl)) (Nat.zero_le _) (Nat.zero_le _) d_Court_warrantFor_7 ?_
  refine x_aload_n 0 d_Court_warrantFor_10 rfl rfl ?_
  refine x_getP (q := 52) f_Court_18 sh_51 rfl d_Court_warrantFor_11 ?_
  refine x_bipush 10 d_Court_warrantFor_14 (by decide) ?_
  refine x_iload_n 2 d_Court_warrantFor_16 rfl rfl ?_
  obtain ⟨p3, e4, h⟩ := xbind h
  refine x_callV0v e_Court_60 sh_52 rfl (t_Bench_tell 10 a2 p1 L _ e4) rfl rfl rfl (Nat.le_of_ble_eq_true rfl) (xfit_of (by omega) (Nat.le_of_ble_eq_true rfl)) (Nat.zero_le _) (Nat.zero_le _) d_Court_warrantFor_17 ?_
  refine x_aload_n 0 d_Court_warrantFor_20 rfl rfl ?_
  refine x_getP (q := 52) f_Court_18 sh_51 rfl d_Court_warrantFor_21 ?_
  refine x_bipush 11 d_Court_warrantFor_24 (by decide) ?_
  refine x_aload_n 0 d_Court_warrantFor_26 rfl rfl ?_
  refine x_getP (q := 1) f_Court_29 sh_51 rfl d_Court_warrantFor_27 ?_
  refine x_iload_n 1 d_Court_warrantFor_30 rfl rfl ?_
  refine x_iload_n 2 d_Court_warrantFor_31 rfl rfl ?_
  obtain ⟨p5, e6, h⟩ := xbind h
  refine x_callV0 e_Court_110 sh_1 rfl (t_Rolls_lastOf a1 a2 p3 L _ e6) rfl rfl rfl (Nat.le_of_ble_eq_true rfl) (xfit_of (by omega) (Nat.le_of_ble_eq_true rfl)) (Nat.zero_le _) (Nat.zero_le _) d_Court_warrantFor_32 ?_
  obtain ⟨p7, e8, h⟩ := xbind h
  refine x_callV0v e_Court_60 sh_52 rfl (t_Bench_tell 11 p5 p3 L _ e8) rfl rfl rfl (Nat.le_of_ble_eq_true rfl) (xfit_of (by omega) (Nat.le_of_ble_eq_true rfl)) (Nat.zero_le _) (Nat.zero_le _) d_Court_warrantFor_35 ?_
  refine x_aload_n 0 d_Court_warrantFor_38 rfl rfl ?_
  refine x_getP (q := 52) f_Court_18 sh_51 rfl d_Court_warrantFor_39 ?_
  refine x_bipush 12 d_Court_warrantFor_42 (by decide) ?_
  refine x_aload_n 0 d_Court_warrantFor_44 rfl rfl ?_
  refine x_getP (q := 1) f_Court_29 sh_51 rfl d_Court_warrantFor_45 ?_
  refine x_iload_n 1 d_Court_warrantFor_48 rfl rfl ?_
  obtain ⟨p9, e10, h⟩ := xbind h
  refine x_callV0 e_Court_113 sh_1 rfl (t_Rolls_seenOn a1 p7 L _ e10) rfl rfl rfl (Nat.le_of_ble_eq_true rfl) (xfit_of (by omega) (Nat.le_of_ble_eq_true rfl)) (Nat.zero_le _) (Nat.zero_le _) d_Court_warrantFor_49 ?_
  obtain ⟨p11, e12, h⟩ := xbind h
  refine x_callV0v e_Court_60 sh_52 rfl (t_Bench_tell 12 p9 p7 L _ e12) rfl rfl rfl (Nat.le_of_ble_eq_true rfl) (xfit_of (by omega) (Nat.le_of_ble_eq_true rfl)) (Nat.zero_le _) (Nat.zero_le _) d_Court_warrantFor_52 ?_
  refine x_aload_n 0 d_Court_warrantFor_55 rfl rfl ?_
  refine x_getP (q := 52) f_Court_18 sh_51 rfl d_Court_warrantFor_56 ?_
  refine x_bipush 13 d_Court_warrantFor_59 (by decide) ?_
  refine x_aload_n 0 d_Court_warrantFor_61 rfl rfl ?_
  refine x_getP (q := 1) f_Court_29 sh_51 rfl d_Court_warrantFor_62 ?_
  refine x_iload_n 1 d_Court_warrantFor_65 rfl rfl ?_
  obtain ⟨p13, e14, h⟩ := xbind h
  refine x_callV0 e_Court_47 sh_1 rfl (t_Rolls_skyOf a1 p11 L _ e14) rfl rfl rfl (Nat.le_of_ble_eq_true rfl) (xfit_of (by omega) (Nat.le_of_ble_eq_true rfl)) (Nat.zero_le _) (Nat.zero_le _) d_Court_warrantFor_66 ?_
  obtain ⟨p15, e16, h⟩ := xbind h
  refine x_callV0v e_Court_60 sh_52 rfl (t_Bench_tell 13 p13 p11 L _ e16) rfl rfl rfl (Nat.le_of_ble_eq_true rfl) (xfit_of (by omega) (Nat.le_of_ble_eq_true rfl)) (Nat.zero_le _) (Nat.zero_le _) d_Court_warrantFor_69 ?_
  refine x_aload_n 0 d_Court_warrantFor_72 rfl rfl ?_
  refine x_iconst 0 d_Court_warrantFor_73 (by decide) ?_
  obtain ⟨p17, e18, h⟩ := xbind h
  refine x_callV0 e_Court_77 sh_51 rfl (t_Court_comesTo 0 p15 L _ e18) rfl rfl rfl (Nat.le_of_ble_eq_true rfl) (xfit_of (by omega) (Nat.le_of_ble_eq_true rfl)) (Nat.zero_le _) (Nat.zero_le _) d_Court_warrantFor_74 ?_
  obtain rfl := Option.some.inj h
  exact x_ireturn rfl d_Court_warrantFor_77 (Nat.le_refl _) (Nat.le_refl _) ⟨rfl, rfl⟩
-- Ww_warrant
def b_Ww_warrant_38 (k29 : Int32 → Int32 → Int32 → xV → Option (Int32 × xV)) (k38 : Int32 → Int32 → Int32 → Int32 → xV → Option (Int32 × xV)) (v2 : Int32) (v3 : Int32) (v4 : Int32) (v5 : Int32) (V : xV) : Option (Int32 × xV) := (if 4 ≤ v5 then k29 v2 v3 (v4 + 1) V else (Option.bind (f_Court_warrantFor v4 v5 V) fun p11 => (Option.bind (f_Rolls_stamp v4 v5 p11.1 p11.2) fun p13 => (if p13.1 = 0 then k38 v2 v3 v4 (v5 + 1) p13.2 else k38 v2 (v3 + 1) v4 (v5 + 1) p13.2))))
theorem tb_Ww_warrant_38 {L : xL} (k29 : Int32 → Int32 → Int32 → xV → Option (Int32 × xV)) (k38 : Int32 → Int32 → Int32 → Int32 → xV → Option (Int32 × xV)) (res : Int32 × xV) (hk29 : ∀ (v2 : Int32) (v3 : Int32) (v4 : Int32) (V : xV), k29 v2 v3 v4 V = some res → X M_Ww_warrant (xRm (5) M_Ww_warrant) (xZ M_Ww_warrant (fun o h' => o = some (.int res.1) ∧ h' = (SH, res.2, L))) SH V L 0 0 29 [(0, .ref 0), (2, .int v2), (3, .int v3), (4, .int v4)] []) (hk38 : ∀ (v2 : Int32) (v3 : Int32) (v4 : Int32) (v5 : Int32) (V : xV), k38 v2 v3 v4 v5 V = some res → X M_Ww_warrant (xRm (5) M_Ww_warrant) (xZ M_Ww_warrant (fun o h' => o = some (.int res.1) ∧ h' = (SH, res.2, L))) SH V L 0 0 38 [(0, .ref 0), (2, .int v2), (3, .int v3), (4, .int v4), (5, .int v5)] []) (v2 : Int32) (v3 : Int32) (v4 : Int32) (v5 : Int32) (V : xV) (h : b_Ww_warrant_38 k29 k38 v2 v3 v4 v5 V = some res) : X M_Ww_warrant (xRm (5) M_Ww_warrant) (xZ M_Ww_warrant (fun o h' => o = some (.int res.1) ∧ h' = (SH, res.2, L))) SH V L 0 0 38 [(0, .ref 0), (2, .int v2), (3, .int v3), (4, .int v4), (5, .int v5)] [] := by
  unfold b_Ww_warrant_38 at h
  refine x_iload 4 d_Ww_warrant_38 rfl ?_
  refine x_iconst 4 d_Ww_warrant_40 (by decide) ?_
  refine x_icmp_ge 78 d_Ww_warrant_41 (by decide) (fun c10 => ?_) (fun c10 => ?_)
  · replace h := xpos c10 h
    refine x_iinc 3 1 [(4, .int (v4 + 1)), (0, .ref 0), (2, .int v2), (3, .int v3), (5, .int v5)] d_Ww_warrant_78 rfl (by decide) (Nat.le_of_ble_eq_true rfl) rfl ?_
    refine x_goto 29 d_Ww_warrant_81 (by decide) ?_
    refine x_pick [1, 2, 3, 0] rfl ?_
    exact hk29 v2 v3 (v4 + 1) V h
  · replace h := xneg c10 h
    refine x_aload_n 0 d_Ww_warrant_44 rfl rfl ?_
    refine x_getP (q := 1) f_Ww_10 sh_0 rfl d_Ww_warrant_45 ?_
    refine x_iload 3 d_Ww_warrant_48 rfl ?_
    refine x_iload 4 d_Ww_warrant_50 rfl ?_
    refine x_aload_n 0 d_Ww_warrant_52 rfl rfl ?_
    refine x_getP (q := 51) f_Ww_53 sh_0 rfl d_Ww_warrant_53 ?_
    refine x_iload 3 d_Ww_warrant_56 rfl ?_
    refine x_iload 4 d_Ww_warrant_58 rfl ?_
    obtain ⟨p11, e12, h⟩ := xbind h
    refine x_callV0 e_Ww_150 sh_51 rfl (t_Court_warrantFor v4 v5 V L _ e12) rfl rfl rfl (Nat.le_of_ble_eq_true rfl) (xfit_of (by omega) (Nat.le_of_ble_eq_true rfl)) (Nat.zero_le _) (Nat.zero_le _) d_Ww_warrant_60 ?_
    obtain ⟨p13, e14, h⟩ := xbind h
    refine x_callV0 e_Ww_96 sh_1 rfl (t_Rolls_stamp v4 v5 p11.1 p11.2 L _ e14) rfl rfl rfl (Nat.le_of_ble_eq_true rfl) (xfit_of (by omega) (Nat.le_of_ble_eq_true rfl)) (Nat.zero_le _) (Nat.zero_le _) d_Ww_warrant_63 ?_
    refine x_if_eq 72 d_Ww_warrant_66 (by decide) (fun c15 => ?_) (fun c15 => ?_)
    · replace h := xpos c15 h
      refine x_iinc 4 1 [(5, .int (v5 + 1)), (0, .ref 0), (2, .int v2), (3, .int v3), (4, .int v4)] d_Ww_warrant_72 rfl (by decide) (Nat.le_of_ble_eq_true rfl) rfl ?_
      refine x_goto 38 d_Ww_warrant_75 (by decide) ?_
      refine x_pick [1, 2, 3, 4, 0] rfl ?_
      exact hk38 v2 v3 v4 (v5 + 1) p13.2 h
    · replace h := xneg c15 h
      refine x_iinc 2 1 [(3, .int (v3 + 1)), (0, .ref 0), (2, .int v2), (4, .int v4), (5, .int v5)] d_Ww_warrant_69 rfl (by decide) (Nat.le_of_ble_eq_true rfl) rfl ?_
      refine x_iinc 4 1 [(5, .int (v5 + 1)), (3, .int (v3 + 1)), (0, .ref 0), (2, .int v2), (4, .int v4)] d_Ww_warrant_72 rfl (by decide) (Nat.le_of_ble_eq_true rfl) rfl ?_
      refine x_goto 38 d_Ww_warrant_75 (by decide) ?_
      refine x_pick [2, 3, 1, 4, 0] rfl ?_
      exact hk38 v2 (v3 + 1) v4 (v5 + 1) p13.2 h
def g_Ww_warrant_38 (k29 : Int32 → Int32 → Int32 → xV → Option (Int32 × xV)) : Nat → Int32 → Int32 → Int32 → Int32 → xV → Option (Int32 × xV)
  | 0, _, _, _, _, _ => none
  | n + 1, v2, v3, v4, v5, V => b_Ww_warrant_38 k29 (g_Ww_warrant_38 k29 n) v2 v3 v4 v5 V
theorem tg_Ww_warrant_38 {L : xL} (k29 : Int32 → Int32 → Int32 → xV → Option (Int32 × xV)) (res : Int32 × xV) (hk29 : ∀ (v2 : Int32) (v3 : Int32) (v4 : Int32) (V : xV), k29 v2 v3 v4 V = some res → X M_Ww_warrant (xRm (5) M_Ww_warrant) (xZ M_Ww_warrant (fun o h' => o = some (.int res.1) ∧ h' = (SH, res.2, L))) SH V L 0 0 29 [(0, .ref 0), (2, .int v2), (3, .int v3), (4, .int v4)] []) : ∀ (n : Nat) (v2 : Int32) (v3 : Int32) (v4 : Int32) (v5 : Int32) (V : xV), g_Ww_warrant_38 k29 n v2 v3 v4 v5 V = some res → X M_Ww_warrant (xRm (5) M_Ww_warrant) (xZ M_Ww_warrant (fun o h' => o = some (.int res.1) ∧ h' = (SH, res.2, L))) SH V L 0 0 38 [(0, .ref 0), (2, .int v2), (3, .int v3), (4, .int v4), (5, .int v5)] []
  | 0, _, _, _, _, _, h => by cases h
  | n + 1, v2, v3, v4, v5, V, h => tb_Ww_warrant_38 (L := L) k29 (g_Ww_warrant_38 k29 n) res hk29 (tg_Ww_warrant_38 (L := L) k29 res hk29 n) v2 v3 v4 v5 V h
def b_Ww_warrant_29 (k29 : Int32 → Int32 → Int32 → xV → Option (Int32 × xV)) (v2 : Int32) (v3 : Int32) (v4 : Int32) (V : xV) : Option (Int32 × xV) := (if v2 < v4 then some (v3, V) else g_Ww_warrant_38 k29 2000 v2 v3 v4 0 V)
theorem tb_Ww_warrant_29 {L : xL} (k29 : Int32 → Int32 → Int32 → xV → Option (Int32 × xV)) (res : Int32 × xV) (hk29 : ∀ (v2 : Int32) (v3 : Int32) (v4 : Int32) (V : xV), k29 v2 v3 v4 V = some res → X M_Ww_warrant (xRm (5) M_Ww_warrant) (xZ M_Ww_warrant (fun o h' => o = some (.int res.1) ∧ h' = (SH, res.2, L))) SH V L 0 0 29 [(0, .ref 0), (2, .int v2), (3, .int v3), (4, .int v4)] []) (v2 : Int32) (v3 : Int32) (v4 : Int32) (V : xV) (h : b_Ww_warrant_29 k29 v2 v3 v4 V = some res) : X M_Ww_warrant (xRm (5) M_Ww_warrant) (xZ M_Ww_warrant (fun o h' => o = some (.int res.1) ∧ h' = (SH, res.2, L))) SH V L 0 0 29 [(0, .ref 0), (2, .int v2), (3, .int v3), (4, .int v4)] [] := by
  unfold b_Ww_warrant_29 at h
  refine x_iload 3 d_Ww_warrant_29 rfl ?_
  refine x_iload_n 1 d_Ww_warrant_31 rfl rfl ?_
  refine x_icmp_gt 84 d_Ww_warrant_32 (by decide) (fun c9 => ?_) (fun c9 => ?_)
  · replace h := xpos c9 h
    refine x_iload_n 2 d_Ww_warrant_84 rfl rfl ?_
    obtain rfl := Option.some.inj h
    exact x_ireturn rfl d_Ww_warrant_85 (Nat.le_refl _) (Nat.le_refl _) ⟨rfl, rfl⟩
  · replace h := xneg c9 h
    refine x_iconst 0 d_Ww_warrant_35 (by decide) ?_
    refine x_istore [(5, .int 0), (0, .ref 0), (2, .int v2), (3, .int v3), (4, .int v4)] d_Ww_warrant_36 (Nat.le_of_ble_eq_true rfl) rfl ?_
    refine x_pick [1, 2, 3, 4, 0] rfl ?_
    exact tg_Ww_warrant_38 (L := L) k29 res hk29 _ v2 v3 v4 0 V h
def g_Ww_warrant_29  : Nat → Int32 → Int32 → Int32 → xV → Option (Int32 × xV)
  | 0, _, _, _, _ => none
  | n + 1, v2, v3, v4, V => b_Ww_warrant_29 (g_Ww_warrant_29  n) v2 v3 v4 V
theorem tg_Ww_warrant_29 {L : xL} (res : Int32 × xV)  : ∀ (n : Nat) (v2 : Int32) (v3 : Int32) (v4 : Int32) (V : xV), g_Ww_warrant_29  n v2 v3 v4 V = some res → X M_Ww_warrant (xRm (5) M_Ww_warrant) (xZ M_Ww_warrant (fun o h' => o = some (.int res.1) ∧ h' = (SH, res.2, L))) SH V L 0 0 29 [(0, .ref 0), (2, .int v2), (3, .int v3), (4, .int v4)] []
  | 0, _, _, _, _, h => by cases h
  | n + 1, v2, v3, v4, V, h => tb_Ww_warrant_29 (L := L) (g_Ww_warrant_29  n) res (tg_Ww_warrant_29 (L := L) res n) v2 v3 v4 V h
def f_Ww_warrant (a1 : Int32) (a2 : Int32) (V : xV) : Option (Int32 × xV) := (if (f_Ww_areDays a1 a2) = 0 then some ((-1), V) else (Option.bind (f_Shelf_ruling V) fun p3 => (if lawB p3 = true then (Option.bind (f_Law_has p3 0 V) fun p6 => (if ¬ p6 = 0 then g_Ww_warrant_29 2000 a2 0 a1 V else some ((-1), V))) else none)))
theorem t_Ww_warrant (a1 : Int32) (a2 : Int32) (V : xV) (L : xL) (res : Int32 × xV) (h : f_Ww_warrant a1 a2 V = some res) : xRuns (5) M_Ww_warrant [.ref 0, .int a1, .int a2] (SH, V, L) (fun o h' => o = some (.int res.1) ∧ h' = (SH, res.2, L)) := by
  refine xRuns_of (by decide) (Nat.le_of_ble_eq_true rfl) ?_
  unfold f_Ww_warrant at h
  show X M_Ww_warrant (xRm (5) M_Ww_warrant) (xZ M_Ww_warrant (fun o h' => o = some (.int res.1) ∧ h' = (SH, res.2, L))) SH V L 0 0 0 [(0, .ref 0), (1, .int a1), (2, .int a2)] []
  refine x_iload_n 1 d_Ww_warrant_0 rfl rfl ?_
  refine x_iload_n 2 d_Ww_warrant_1 rfl rfl ?_
  refine x_callS0 e_Ww_138 (t_Ww_areDays a1 a2 V L _ rfl) rfl rfl rfl (Nat.le_of_ble_eq_true rfl) (xfit_of (by omega) (Nat.le_of_ble_eq_true rfl)) (Nat.zero_le _) (Nat.zero_le _) d_Ww_warrant_2 ?_
  refine x_if_eq 22 d_Ww_warrant_5 (by decide) (fun c2 => ?_) (fun c2 => ?_)
  · replace h := xpos c2 h
    refine x_iconst (-1) d_Ww_warrant_22 (by decide) ?_
    obtain rfl := Option.some.inj h
    exact x_ireturn rfl d_Ww_warrant_23 (Nat.le_refl _) (Nat.le_refl _) ⟨rfl, rfl⟩
  · replace h := xneg c2 h
    refine x_aload_n 0 d_Ww_warrant_8 rfl rfl ?_
    refine x_getP (q := 19) f_Ww_31 sh_0 rfl d_Ww_warrant_9 ?_
    obtain ⟨p3, e4, h⟩ := xbind h
    refine x_callV0 e_Ww_141 sh_19 rfl (t_Shelf_ruling V L _ e4) rfl rfl rfl (Nat.le_of_ble_eq_true rfl) (xfit_of (by omega) (Nat.le_of_ble_eq_true rfl)) (Nat.zero_le _) (Nat.zero_le _) d_Ww_warrant_12 ?_
    obtain ⟨c5, h⟩ := xguard h
    refine x_iconst 0 d_Ww_warrant_15 (by decide) ?_
    obtain ⟨p6, e7, h⟩ := xbind h
    refine x_callV0 e_Ww_144 (sh_law c5) rfl (t_Law_has p3 0 c5 V L _ e7) rfl rfl rfl (Nat.le_of_ble_eq_true rfl) (xfit_of (by omega) (Nat.le_of_ble_eq_true rfl)) (Nat.zero_le _) (Nat.zero_le _) d_Ww_warrant_16 ?_
    refine x_if_ne 24 d_Ww_warrant_19 (by decide) (fun c8 => ?_) (fun c8 => ?_)
    · replace h := xpos c8 h
      refine x_iconst 0 d_Ww_warrant_24 (by decide) ?_
      refine x_istore_n [(3, .int 0), (0, .ref 0), (1, .int a1), (2, .int a2)] d_Ww_warrant_25 rfl (Nat.le_of_ble_eq_true rfl) rfl ?_
      refine x_iload_n 2 d_Ww_warrant_26 rfl rfl ?_
      refine x_istore [(4, .int a1), (3, .int 0), (0, .ref 0), (1, .int a1), (2, .int a2)] d_Ww_warrant_27 (Nat.le_of_ble_eq_true rfl) rfl ?_
      refine x_pick [2, 4, 1, 0] rfl ?_
      exact tg_Ww_warrant_29 (L := L) res _ a2 0 a1 V h
    · replace h := xneg c8 h
      refine x_iconst (-1) d_Ww_warrant_22 (by decide) ?_
      obtain rfl := Option.some.inj h
      exact x_ireturn rfl d_Ww_warrant_23 (Nat.le_refl _) (Nat.le_refl _) ⟨rfl, rfl⟩
