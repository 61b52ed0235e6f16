theorem d_Md_says_0 : decode M_Md_says.2.1 0 = .ok (.aload_n 0, 1) := by decide +kernel
theorem d_Md_says_1 : decode M_Md_says.2.1 1 = .ok (.aload_n 0, 1) := by decide +kernel
theorem d_Md_says_2 : decode M_Md_says.2.1 2 = .ok (.getfield 30, 3) := by decide +kernel
theorem d_Md_says_5 : decode M_Md_says.2.1 5 = .ok (.bipush 6, 2) := by decide +kernel
theorem d_Md_says_7 : decode M_Md_says.2.1 7 = .ok (.aload_n 0, 1) := by decide +kernel
theorem d_Md_says_8 : decode M_Md_says.2.1 8 = .ok (.getfield 7, 3) := by decide +kernel
theorem d_Md_says_11 : decode M_Md_says.2.1 11 = .ok (.iconst 3, 1) := by decide +kernel
theorem d_Md_says_12 : decode M_Md_says.2.1 12 = .ok (.iaload, 1) := by decide +kernel
theorem d_Md_says_13 : decode M_Md_says.2.1 13 = .ok (.imul, 1) := by decide +kernel
theorem d_Md_says_14 : decode M_Md_says.2.1 14 = .ok (.iload_n 1, 1) := by decide +kernel
theorem d_Md_says_15 : decode M_Md_says.2.1 15 = .ok (.iadd, 1) := by decide +kernel
theorem d_Md_says_16 : decode M_Md_says.2.1 16 = .ok (.iaload, 1) := by decide +kernel
theorem d_Md_says_17 : decode M_Md_says.2.1 17 = .ok (.invokevirtual 287, 3) := by decide +kernel
theorem d_Md_says_20 : decode M_Md_says.2.1 20 = .ok (.lreturn, 1) := by decide +kernel
theorem d_Md_warrant_0 : decode M_Md_warrant.2.1 0 = .ok (.iload_n 1, 1) := by decide +kernel
theorem d_Md_warrant_1 : decode M_Md_warrant.2.1 1 = .ok (.invokestatic 97, 3) := by decide +kernel
theorem d_Md_warrant_4 : decode M_Md_warrant.2.1 4 = .ok (.ifCond .eq 21, 3) := by decide +kernel
theorem d_Md_warrant_7 : decode M_Md_warrant.2.1 7 = .ok (.iload_n 2, 1) := by decide +kernel
theorem d_Md_warrant_8 : decode M_Md_warrant.2.1 8 = .ok (.iload_n 1, 1) := by decide +kernel
theorem d_Md_warrant_9 : decode M_Md_warrant.2.1 9 = .ok (.bipush 29, 2) := by decide +kernel
theorem d_Md_warrant_11 : decode M_Md_warrant.2.1 11 = .ok (.invokestatic 89, 3) := by decide +kernel
theorem d_Md_warrant_14 : decode M_Md_warrant.2.1 14 = .ok (.ifCond .eq 11, 3) := by decide +kernel
theorem d_Md_warrant_17 : decode M_Md_warrant.2.1 17 = .ok (.aload_n 0, 1) := by decide +kernel
theorem d_Md_warrant_18 : decode M_Md_warrant.2.1 18 = .ok (.iconst 0, 1) := by decide +kernel
theorem d_Md_warrant_19 : decode M_Md_warrant.2.1 19 = .ok (.invokevirtual 295, 3) := by decide +kernel
theorem d_Md_warrant_22 : decode M_Md_warrant.2.1 22 = .ok (.ifCond .ne 5, 3) := by decide +kernel
theorem d_Md_warrant_25 : decode M_Md_warrant.2.1 25 = .ok (.iconst (-1), 1) := by decide +kernel
theorem d_Md_warrant_26 : decode M_Md_warrant.2.1 26 = .ok (.ireturn, 1) := by decide +kernel
theorem d_Md_warrant_27 : decode M_Md_warrant.2.1 27 = .ok (.iconst 0, 1) := by decide +kernel
theorem d_Md_warrant_28 : decode M_Md_warrant.2.1 28 = .ok (.istore_n 3, 1) := by decide +kernel
theorem d_Md_warrant_29 : decode M_Md_warrant.2.1 29 = .ok (.iload_n 1, 1) := by decide +kernel
theorem d_Md_warrant_30 : decode M_Md_warrant.2.1 30 = .ok (.istore 4, 2) := by decide +kernel
theorem d_Md_warrant_32 : decode M_Md_warrant.2.1 32 = .ok (.iload 4, 2) := by decide +kernel
theorem d_Md_warrant_34 : decode M_Md_warrant.2.1 34 = .ok (.iload_n 2, 1) := by decide +kernel
theorem d_Md_warrant_35 : decode M_Md_warrant.2.1 35 = .ok (.if_icmp .gt 82, 3) := by decide +kernel
theorem d_Md_warrant_38 : decode M_Md_warrant.2.1 38 = .ok (.iconst 0, 1) := by decide +kernel
theorem d_Md_warrant_39 : decode M_Md_warrant.2.1 39 = .ok (.istore 5, 2) := by decide +kernel
theorem d_Md_warrant_41 : decode M_Md_warrant.2.1 41 = .ok (.iload 5, 2) := by decide +kernel
theorem d_Md_warrant_43 : decode M_Md_warrant.2.1 43 = .ok (.iconst 4, 1) := by decide +kernel
theorem d_Md_warrant_44 : decode M_Md_warrant.2.1 44 = .ok (.if_icmp .ge 67, 3) := by decide +kernel
theorem d_Md_warrant_47 : decode M_Md_warrant.2.1 47 = .ok (.aload_n 0, 1) := by decide +kernel
theorem d_Md_warrant_48 : decode M_Md_warrant.2.1 48 = .ok (.iload 4, 2) := by decide +kernel
theorem d_Md_warrant_50 : decode M_Md_warrant.2.1 50 = .ok (.iload 5, 2) := by decide +kernel
theorem d_Md_warrant_52 : decode M_Md_warrant.2.1 52 = .ok (.invokevirtual 298, 3) := by decide +kernel
theorem d_Md_warrant_55 : decode M_Md_warrant.2.1 55 = .ok (.aload_n 0, 1) := by decide +kernel
theorem d_Md_warrant_56 : decode M_Md_warrant.2.1 56 = .ok (.iconst 0, 1) := by decide +kernel
theorem d_Md_warrant_57 : decode M_Md_warrant.2.1 57 = .ok (.invokevirtual 301, 3) := by decide +kernel
theorem d_Md_warrant_60 : decode M_Md_warrant.2.1 60 = .ok (.lconst 0, 1) := by decide +kernel
theorem d_Md_warrant_61 : decode M_Md_warrant.2.1 61 = .ok (.lcmp, 1) := by decide +kernel
theorem d_Md_warrant_62 : decode M_Md_warrant.2.1 62 = .ok (.ifCond .le 7, 3) := by decide +kernel
theorem d_Md_warrant_65 : decode M_Md_warrant.2.1 65 = .ok (.iconst 1, 1) := by decide +kernel
theorem d_Md_warrant_66 : decode M_Md_warrant.2.1 66 = .ok (.goto 4, 3) := by decide +kernel
theorem d_Md_warrant_69 : decode M_Md_warrant.2.1 69 = .ok (.iconst 0, 1) := by decide +kernel
theorem d_Md_warrant_70 : decode M_Md_warrant.2.1 70 = .ok (.istore 6, 2) := by decide +kernel
theorem d_Md_warrant_72 : decode M_Md_warrant.2.1 72 = .ok (.aload_n 0, 1) := by decide +kernel
theorem d_Md_warrant_73 : decode M_Md_warrant.2.1 73 = .ok (.iload 4, 2) := by decide +kernel
theorem d_Md_warrant_75 : decode M_Md_warrant.2.1 75 = .ok (.iload 5, 2) := by decide +kernel
theorem d_Md_warrant_77 : decode M_Md_warrant.2.1 77 = .ok (.iload 6, 2) := by decide +kernel
theorem d_Md_warrant_79 : decode M_Md_warrant.2.1 79 = .ok (.ifCond .eq 7, 3) := by decide +kernel
theorem d_Md_warrant_82 : decode M_Md_warrant.2.1 82 = .ok (.iconst 1, 1) := by decide +kernel
theorem d_Md_warrant_83 : decode M_Md_warrant.2.1 83 = .ok (.goto 4, 3) := by decide +kernel
theorem d_Md_warrant_86 : decode M_Md_warrant.2.1 86 = .ok (.iconst 0, 1) := by decide +kernel
theorem d_Md_warrant_87 : decode M_Md_warrant.2.1 87 = .ok (.invokevirtual 104, 3) := by decide +kernel
theorem d_Md_warrant_90 : decode M_Md_warrant.2.1 90 = .ok (.istore 7, 2) := by decide +kernel
theorem d_Md_warrant_92 : decode M_Md_warrant.2.1 92 = .ok (.iload_n 3, 1) := by decide +kernel
theorem d_Md_warrant_93 : decode M_Md_warrant.2.1 93 = .ok (.iload 7, 2) := by decide +kernel
theorem d_Md_warrant_95 : decode M_Md_warrant.2.1 95 = .ok (.ifCond .eq 7, 3) := by decide +kernel
theorem d_Md_warrant_98 : decode M_Md_warrant.2.1 98 = .ok (.iconst 1, 1) := by decide +kernel
theorem d_Md_warrant_99 : decode M_Md_warrant.2.1 99 = .ok (.goto 4, 3) := by decide +kernel
theorem d_Md_warrant_102 : decode M_Md_warrant.2.1 102 = .ok (.iconst 0, 1) := by decide +kernel
theorem d_Md_warrant_103 : decode M_Md_warrant.2.1 103 = .ok (.iadd, 1) := by decide +kernel
theorem d_Md_warrant_104 : decode M_Md_warrant.2.1 104 = .ok (.istore_n 3, 1) := by decide +kernel
theorem d_Md_warrant_105 : decode M_Md_warrant.2.1 105 = .ok (.iinc 5 1, 3) := by decide +kernel
theorem d_Md_warrant_108 : decode M_Md_warrant.2.1 108 = .ok (.goto (-67), 3) := by decide +kernel
theorem d_Md_warrant_111 : decode M_Md_warrant.2.1 111 = .ok (.iinc 4 1, 3) := by decide +kernel
theorem d_Md_warrant_114 : decode M_Md_warrant.2.1 114 = .ok (.goto (-82), 3) := by decide +kernel
theorem d_Md_warrant_117 : decode M_Md_warrant.2.1 117 = .ok (.iload_n 3, 1) := by decide +kernel
theorem d_Md_warrant_118 : decode M_Md_warrant.2.1 118 = .ok (.ireturn, 1) := by decide +kernel
theorem d_Md_letGo_0 : decode M_Md_letGo.2.1 0 = .ok (.aload_n 0, 1) := by decide +kernel
theorem d_Md_letGo_1 : decode M_Md_letGo.2.1 1 = .ok (.iconst 0, 1) := by decide +kernel
theorem d_Md_letGo_2 : decode M_Md_letGo.2.1 2 = .ok (.invokevirtual 295, 3) := by decide +kernel
theorem d_Md_letGo_5 : decode M_Md_letGo.2.1 5 = .ok (.ifCond .ne 5, 3) := by decide +kernel
theorem d_Md_letGo_8 : decode M_Md_letGo.2.1 8 = .ok (.iconst (-1), 1) := by decide +kernel
theorem d_Md_letGo_9 : decode M_Md_letGo.2.1 9 = .ok (.ireturn, 1) := by decide +kernel
theorem d_Md_letGo_10 : decode M_Md_letGo.2.1 10 = .ok (.aload_n 0, 1) := by decide +kernel
theorem d_Md_letGo_11 : decode M_Md_letGo.2.1 11 = .ok (.getfield 30, 3) := by decide +kernel
theorem d_Md_letGo_14 : decode M_Md_letGo.2.1 14 = .ok (.bipush 6, 2) := by decide +kernel
theorem d_Md_letGo_16 : decode M_Md_letGo.2.1 16 = .ok (.aload_n 0, 1) := by decide +kernel
theorem d_Md_letGo_17 : decode M_Md_letGo.2.1 17 = .ok (.getfield 7, 3) := by decide +kernel
theorem d_Md_letGo_20 : decode M_Md_letGo.2.1 20 = .ok (.iconst 3, 1) := by decide +kernel
theorem d_Md_letGo_21 : decode M_Md_letGo.2.1 21 = .ok (.iaload, 1) := by decide +kernel
theorem d_Md_letGo_22 : decode M_Md_letGo.2.1 22 = .ok (.imul, 1) := by decide +kernel
theorem d_Md_letGo_23 : decode M_Md_letGo.2.1 23 = .ok (.iconst 0, 1) := by decide +kernel
theorem d_Md_letGo_24 : decode M_Md_letGo.2.1 24 = .ok (.iadd, 1) := by decide +kernel
theorem d_Md_letGo_25 : decode M_Md_letGo.2.1 25 = .ok (.iaload, 1) := by decide +kernel
theorem d_Md_letGo_26 : decode M_Md_letGo.2.1 26 = .ok (.istore_n 1, 1) := by decide +kernel
theorem d_Md_letGo_27 : decode M_Md_letGo.2.1 27 = .ok (.iconst 0, 1) := by decide +kernel
theorem d_Md_letGo_28 : decode M_Md_letGo.2.1 28 = .ok (.istore_n 2, 1) := by decide +kernel
theorem d_Md_letGo_29 : decode M_Md_letGo.2.1 29 = .ok (.aload_n 0, 1) := by decide +kernel
theorem d_Md_letGo_30 : decode M_Md_letGo.2.1 30 = .ok (.getfield 36, 3) := by decide +kernel
theorem d_Md_letGo_33 : decode M_Md_letGo.2.1 33 = .ok (.iload_n 1, 1) := by decide +kernel
theorem d_Md_letGo_34 : decode M_Md_letGo.2.1 34 = .ok (.iaload, 1) := by decide +kernel
theorem d_Md_letGo_35 : decode M_Md_letGo.2.1 35 = .ok (.sipush 408, 3) := by decide +kernel
theorem d_Md_letGo_38 : decode M_Md_letGo.2.1 38 = .ok (.if_icmp .eq 37, 3) := by decide +kernel
theorem d_Md_letGo_41 : decode M_Md_letGo.2.1 41 = .ok (.aload_n 0, 1) := by decide +kernel
theorem d_Md_letGo_42 : decode M_Md_letGo.2.1 42 = .ok (.getfield 36, 3) := by decide +kernel
theorem d_Md_letGo_45 : decode M_Md_letGo.2.1 45 = .ok (.iload_n 1, 1) := by decide +kernel
theorem d_Md_letGo_46 : decode M_Md_letGo.2.1 46 = .ok (.iaload, 1) := by decide +kernel
theorem d_Md_letGo_47 : decode M_Md_letGo.2.1 47 = .ok (.sipush 401, 3) := by decide +kernel
theorem d_Md_letGo_50 : decode M_Md_letGo.2.1 50 = .ok (.if_icmp .ne 17, 3) := by decide +kernel
theorem d_Md_letGo_53 : decode M_Md_letGo.2.1 53 = .ok (.aload_n 0, 1) := by decide +kernel
theorem d_Md_letGo_54 : decode M_Md_letGo.2.1 54 = .ok (.getfield 39, 3) := by decide +kernel
theorem d_Md_letGo_57 : decode M_Md_letGo.2.1 57 = .ok (.iload_n 1, 1) := by decide +kernel
theorem d_Md_letGo_58 : decode M_Md_letGo.2.1 58 = .ok (.iaload, 1) := by decide +kernel
theorem d_Md_letGo_59 : decode M_Md_letGo.2.1 59 = .ok (.iconst 4, 1) := by decide +kernel
theorem d_Md_letGo_60 : decode M_Md_letGo.2.1 60 = .ok (.if_icmp .ne 7, 3) := by decide +kernel
theorem d_Md_letGo_63 : decode M_Md_letGo.2.1 63 = .ok (.iconst 1, 1) := by decide +kernel
theorem d_Md_letGo_64 : decode M_Md_letGo.2.1 64 = .ok (.goto 4, 3) := by decide +kernel
theorem d_Md_letGo_67 : decode M_Md_letGo.2.1 67 = .ok (.iload_n 2, 1) := by decide +kernel
theorem d_Md_letGo_68 : decode M_Md_letGo.2.1 68 = .ok (.istore_n 2, 1) := by decide +kernel
theorem d_Md_letGo_69 : decode M_Md_letGo.2.1 69 = .ok (.iinc 1 1, 3) := by decide +kernel
theorem d_Md_letGo_72 : decode M_Md_letGo.2.1 72 = .ok (.goto (-43), 3) := by decide +kernel
theorem d_Md_letGo_75 : decode M_Md_letGo.2.1 75 = .ok (.iload_n 2, 1) := by decide +kernel
theorem d_Md_letGo_76 : decode M_Md_letGo.2.1 76 = .ok (.ireturn, 1) := by decide +kernel
theorem d_Md_undo_0 : decode M_Md_undo.2.1 0 = .ok (.aload_n 0, 1) := by decide +kernel
theorem d_Md_undo_1 : decode M_Md_undo.2.1 1 = .ok (.getfield 7, 3) := by decide +kernel
theorem d_Md_undo_4 : decode M_Md_undo.2.1 4 = .ok (.iconst 4, 1) := by decide +kernel
theorem d_Md_undo_5 : decode M_Md_undo.2.1 5 = .ok (.iaload, 1) := by decide +kernel
theorem d_Md_undo_6 : decode M_Md_undo.2.1 6 = .ok (.ifCond .ne 5, 3) := by decide +kernel
theorem d_Md_undo_9 : decode M_Md_undo.2.1 9 = .ok (.iconst (-1), 1) := by decide +kernel
theorem d_Md_undo_10 : decode M_Md_undo.2.1 10 = .ok (.ireturn, 1) := by decide +kernel
theorem d_Md_undo_11 : decode M_Md_undo.2.1 11 = .ok (.aload_n 0, 1) := by decide +kernel
theorem d_Md_undo_12 : decode M_Md_undo.2.1 12 = .ok (.getfield 7, 3) := by decide +kernel
theorem d_Md_undo_15 : decode M_Md_undo.2.1 15 = .ok (.iconst 4, 1) := by decide +kernel
theorem d_Md_undo_16 : decode M_Md_undo.2.1 16 = .ok (.dup2, 1) := by decide +kernel
theorem d_Md_undo_17 : decode M_Md_undo.2.1 17 = .ok (.iaload, 1) := by decide +kernel
theorem d_Md_undo_18 : decode M_Md_undo.2.1 18 = .ok (.iconst 1, 1) := by decide +kernel
theorem d_Md_undo_19 : decode M_Md_undo.2.1 19 = .ok (.isub, 1) := by decide +kernel
theorem d_Md_undo_20 : decode M_Md_undo.2.1 20 = .ok (.iastore, 1) := by decide +kernel
theorem d_Md_undo_21 : decode M_Md_undo.2.1 21 = .ok (.aload_n 0, 1) := by decide +kernel
theorem d_Md_undo_22 : decode M_Md_undo.2.1 22 = .ok (.getfield 7, 3) := by decide +kernel
theorem d_Md_undo_25 : decode M_Md_undo.2.1 25 = .ok (.sipush 210, 3) := by decide +kernel
theorem d_Md_undo_28 : decode M_Md_undo.2.1 28 = .ok (.aload_n 0, 1) := by decide +kernel
theorem d_Md_undo_29 : decode M_Md_undo.2.1 29 = .ok (.getfield 7, 3) := by decide +kernel
theorem d_Md_undo_32 : decode M_Md_undo.2.1 32 = .ok (.iconst 4, 1) := by decide +kernel
theorem d_Md_undo_33 : decode M_Md_undo.2.1 33 = .ok (.iaload, 1) := by decide +kernel
theorem d_Md_undo_34 : decode M_Md_undo.2.1 34 = .ok (.iadd, 1) := by decide +kernel
theorem d_Md_undo_35 : decode M_Md_undo.2.1 35 = .ok (.iaload, 1) := by decide +kernel
theorem d_Md_undo_36 : decode M_Md_undo.2.1 36 = .ok (.istore_n 1, 1) := by decide +kernel
theorem d_Md_undo_37 : decode M_Md_undo.2.1 37 = .ok (.bipush 40, 2) := by decide +kernel
theorem d_Md_undo_39 : decode M_Md_undo.2.1 39 = .ok (.iconst 4, 1) := by decide +kernel
theorem d_Md_undo_40 : decode M_Md_undo.2.1 40 = .ok (.iload_n 1, 1) := by decide +kernel
theorem d_Md_undo_41 : decode M_Md_undo.2.1 41 = .ok (.bipush 10, 2) := by decide +kernel
theorem d_Md_undo_43 : decode M_Md_undo.2.1 43 = .ok (.idiv, 1) := by decide +kernel
theorem d_Md_undo_44 : decode M_Md_undo.2.1 44 = .ok (.imul, 1) := by decide +kernel
theorem d_Md_undo_45 : decode M_Md_undo.2.1 45 = .ok (.iadd, 1) := by decide +kernel
theorem d_Md_undo_46 : decode M_Md_undo.2.1 46 = .ok (.iload_n 1, 1) := by decide +kernel
theorem d_Md_undo_47 : decode M_Md_undo.2.1 47 = .ok (.bipush 10, 2) := by decide +kernel
theorem d_Md_undo_49 : decode M_Md_undo.2.1 49 = .ok (.irem, 1) := by decide +kernel
theorem d_Md_undo_50 : decode M_Md_undo.2.1 50 = .ok (.iadd, 1) := by decide +kernel
theorem d_Md_undo_51 : decode M_Md_undo.2.1 51 = .ok (.istore_n 2, 1) := by decide +kernel
theorem d_Md_undo_52 : decode M_Md_undo.2.1 52 = .ok (.aload_n 0, 1) := by decide +kernel
theorem d_Md_undo_53 : decode M_Md_undo.2.1 53 = .ok (.getfield 7, 3) := by decide +kernel
theorem d_Md_undo_56 : decode M_Md_undo.2.1 56 = .ok (.iload_n 2, 1) := by decide +kernel
theorem d_Md_undo_57 : decode M_Md_undo.2.1 57 = .ok (.iconst 1, 1) := by decide +kernel
theorem d_Md_undo_58 : decode M_Md_undo.2.1 58 = .ok (.aload_n 0, 1) := by decide +kernel
theorem d_Md_undo_59 : decode M_Md_undo.2.1 59 = .ok (.getfield 7, 3) := by decide +kernel
theorem d_Md_undo_62 : decode M_Md_undo.2.1 62 = .ok (.iload_n 2, 1) := by decide +kernel
theorem d_Md_undo_63 : decode M_Md_undo.2.1 63 = .ok (.iaload, 1) := by decide +kernel
theorem d_Md_undo_64 : decode M_Md_undo.2.1 64 = .ok (.isub, 1) := by decide +kernel
theorem d_Md_undo_65 : decode M_Md_undo.2.1 65 = .ok (.iastore, 1) := by decide +kernel
theorem d_Md_undo_66 : decode M_Md_undo.2.1 66 = .ok (.iload_n 1, 1) := by decide +kernel
theorem d_Md_undo_67 : decode M_Md_undo.2.1 67 = .ok (.ireturn, 1) := by decide +kernel
theorem d_Md_provinceOf_0 : decode M_Md_provinceOf.2.1 0 = .ok (.aload_n 0, 1) := by decide +kernel
theorem d_Md_provinceOf_1 : decode M_Md_provinceOf.2.1 1 = .ok (.getfield 7, 3) := by decide +kernel
theorem d_Md_provinceOf_4 : decode M_Md_provinceOf.2.1 4 = .ok (.sipush 170, 3) := by decide +kernel
theorem d_Md_provinceOf_7 : decode M_Md_provinceOf.2.1 7 = .ok (.iconst 3, 1) := by decide +kernel
theorem d_Md_provinceOf_8 : decode M_Md_provinceOf.2.1 8 = .ok (.iload_n 1, 1) := by decide +kernel
theorem d_Md_provinceOf_9 : decode M_Md_provinceOf.2.1 9 = .ok (.imul, 1) := by decide +kernel
theorem d_Md_provinceOf_10 : decode M_Md_provinceOf.2.1 10 = .ok (.iadd, 1) := by decide +kernel
theorem d_Md_provinceOf_11 : decode M_Md_provinceOf.2.1 11 = .ok (.iaload, 1) := by decide +kernel
theorem d_Md_provinceOf_12 : decode M_Md_provinceOf.2.1 12 = .ok (.ireturn, 1) := by decide +kernel
theorem d_Md_folkNames_0 : decode M_Md_folkNames.2.1 0 = .ok (.aload_n 0, 1) := by decide +kernel
theorem d_Md_folkNames_1 : decode M_Md_folkNames.2.1 1 = .ok (.getfield 66, 3) := by decide +kernel
theorem d_Md_folkNames_4 : decode M_Md_folkNames.2.1 4 = .ok (.iconst 0, 1) := by decide +kernel
theorem d_Md_folkNames_5 : decode M_Md_folkNames.2.1 5 = .ok (.iload_n 2, 1) := by decide +kernel
theorem d_Md_folkNames_6 : decode M_Md_folkNames.2.1 6 = .ok (.iastore, 1) := by decide +kernel
theorem d_Md_folkNames_7 : decode M_Md_folkNames.2.1 7 = .ok (.aload_n 0, 1) := by decide +kernel
theorem d_Md_folkNames_8 : decode M_Md_folkNames.2.1 8 = .ok (.getfield 66, 3) := by decide +kernel
theorem d_Md_folkNames_11 : decode M_Md_folkNames.2.1 11 = .ok (.iconst 1, 1) := by decide +kernel
theorem d_Md_folkNames_12 : decode M_Md_folkNames.2.1 12 = .ok (.aload_n 0, 1) := by decide +kernel
theorem d_Md_folkNames_13 : decode M_Md_folkNames.2.1 13 = .ok (.iload_n 1, 1) := by decide +kernel
theorem d_Md_folkNames_14 : decode M_Md_folkNames.2.1 14 = .ok (.invokevirtual 304, 3) := by decide +kernel
theorem d_Md_folkNames_17 : decode M_Md_folkNames.2.1 17 = .ok (.iastore, 1) := by decide +kernel
theorem d_Md_folkNames_18 : decode M_Md_folkNames.2.1 18 = .ok (.aload_n 0, 1) := by decide +kernel
theorem d_Md_folkNames_19 : decode M_Md_folkNames.2.1 19 = .ok (.getfield 66, 3) := by decide +kernel
theorem d_Md_folkNames_22 : decode M_Md_folkNames.2.1 22 = .ok (.iconst 4, 1) := by decide +kernel
theorem d_Md_folkNames_23 : decode M_Md_folkNames.2.1 23 = .ok (.iload_n 3, 1) := by decide +kernel
theorem d_Md_folkNames_24 : decode M_Md_folkNames.2.1 24 = .ok (.iastore, 1) := by decide +kernel
theorem d_Md_folkNames_25 : decode M_Md_folkNames.2.1 25 = .ok (.aload_n 0, 1) := by decide +kernel
theorem d_Md_folkNames_26 : decode M_Md_folkNames.2.1 26 = .ok (.getfield 66, 3) := by decide +kernel
theorem d_Md_folkNames_29 : decode M_Md_folkNames.2.1 29 = .ok (.iconst 5, 1) := by decide +kernel
theorem d_Md_folkNames_30 : decode M_Md_folkNames.2.1 30 = .ok (.iload 4, 2) := by decide +kernel
theorem d_Md_folkNames_32 : decode M_Md_folkNames.2.1 32 = .ok (.iastore, 1) := by decide +kernel
theorem d_Md_folkNames_33 : decode M_Md_folkNames.2.1 33 = .ok (.aload_n 0, 1) := by decide +kernel
theorem d_Md_folkNames_34 : decode M_Md_folkNames.2.1 34 = .ok (.getfield 66, 3) := by decide +kernel
theorem d_Md_folkNames_37 : decode M_Md_folkNames.2.1 37 = .ok (.bipush 6, 2) := by decide +kernel
theorem d_Md_folkNames_39 : decode M_Md_folkNames.2.1 39 = .ok (.aload_n 0, 1) := by decide +kernel
theorem d_Md_folkNames_40 : decode M_Md_folkNames.2.1 40 = .ok (.getfield 7, 3) := by decide +kernel
theorem d_Md_folkNames_43 : decode M_Md_folkNames.2.1 43 = .ok (.sipush 170, 3) := by decide +kernel
theorem d_Md_folkNames_46 : decode M_Md_folkNames.2.1 46 = .ok (.iconst 3, 1) := by decide +kernel
theorem d_Md_folkNames_47 : decode M_Md_folkNames.2.1 47 = .ok (.iload_n 1, 1) := by decide +kernel
theorem d_Md_folkNames_48 : decode M_Md_folkNames.2.1 48 = .ok (.imul, 1) := by decide +kernel
theorem d_Md_folkNames_49 : decode M_Md_folkNames.2.1 49 = .ok (.iadd, 1) := by decide +kernel
theorem d_Md_folkNames_50 : decode M_Md_folkNames.2.1 50 = .ok (.iconst 1, 1) := by decide +kernel
theorem d_Md_folkNames_51 : decode M_Md_folkNames.2.1 51 = .ok (.iadd, 1) := by decide +kernel
theorem d_Md_folkNames_52 : decode M_Md_folkNames.2.1 52 = .ok (.iaload, 1) := by decide +kernel
theorem d_Md_folkNames_53 : decode M_Md_folkNames.2.1 53 = .ok (.iastore, 1) := by decide +kernel
theorem d_Md_folkNames_54 : decode M_Md_folkNames.2.1 54 = .ok (.aload_n 0, 1) := by decide +kernel
theorem d_Md_folkNames_55 : decode M_Md_folkNames.2.1 55 = .ok (.getfield 66, 3) := by decide +kernel
theorem d_Md_folkNames_58 : decode M_Md_folkNames.2.1 58 = .ok (.bipush 7, 2) := by decide +kernel
theorem d_Md_folkNames_60 : decode M_Md_folkNames.2.1 60 = .ok (.aload_n 0, 1) := by decide +kernel
theorem d_Md_folkNames_61 : decode M_Md_folkNames.2.1 61 = .ok (.getfield 7, 3) := by decide +kernel
theorem d_Md_folkNames_64 : decode M_Md_folkNames.2.1 64 = .ok (.sipush 170, 3) := by decide +kernel
theorem d_Md_folkNames_67 : decode M_Md_folkNames.2.1 67 = .ok (.iconst 3, 1) := by decide +kernel
theorem d_Md_folkNames_68 : decode M_Md_folkNames.2.1 68 = .ok (.iload_n 1, 1) := by decide +kernel
theorem d_Md_folkNames_69 : decode M_Md_folkNames.2.1 69 = .ok (.imul, 1) := by decide +kernel
theorem d_Md_folkNames_70 : decode M_Md_folkNames.2.1 70 = .ok (.iadd, 1) := by decide +kernel
theorem d_Md_folkNames_71 : decode M_Md_folkNames.2.1 71 = .ok (.iconst 2, 1) := by decide +kernel
theorem d_Md_folkNames_72 : decode M_Md_folkNames.2.1 72 = .ok (.iadd, 1) := by decide +kernel
theorem d_Md_folkNames_73 : decode M_Md_folkNames.2.1 73 = .ok (.iaload, 1) := by decide +kernel
theorem d_Md_folkNames_74 : decode M_Md_folkNames.2.1 74 = .ok (.iastore, 1) := by decide +kernel
theorem d_Md_folkNames_75 : decode M_Md_folkNames.2.1 75 = .ok (.return_, 1) := by decide +kernel
theorem d_Md_does_0 : decode M_Md_does.2.1 0 = .ok (.aload_n 0, 1) := by decide +kernel
theorem d_Md_does_1 : decode M_Md_does.2.1 1 = .ok (.iload_n 1, 1) := by decide +kernel
theorem d_Md_does_2 : decode M_Md_does.2.1 2 = .ok (.iload_n 2, 1) := by decide +kernel
theorem d_Md_does_3 : decode M_Md_does.2.1 3 = .ok (.iload_n 3, 1) := by decide +kernel
theorem d_Md_does_4 : decode M_Md_does.2.1 4 = .ok (.iload 4, 2) := by decide +kernel
theorem d_Md_does_6 : decode M_Md_does.2.1 6 = .ok (.invokevirtual 307, 3) := by decide +kernel
theorem d_Md_does_9 : decode M_Md_does.2.1 9 = .ok (.aload_n 0, 1) := by decide +kernel
theorem d_Md_does_10 : decode M_Md_does.2.1 10 = .ok (.iconst 1, 1) := by decide +kernel
theorem d_Md_does_11 : decode M_Md_does.2.1 11 = .ok (.invokevirtual 295, 3) := by decide +kernel
theorem d_Md_does_14 : decode M_Md_does.2.1 14 = .ok (.ifCond .eq 17, 3) := by decide +kernel
theorem d_Md_does_17 : decode M_Md_does.2.1 17 = .ok (.aload_n 0, 1) := by decide +kernel
theorem d_Md_does_18 : decode M_Md_does.2.1 18 = .ok (.iconst 1, 1) := by decide +kernel
theorem d_Md_does_19 : decode M_Md_does.2.1 19 = .ok (.invokevirtual 301, 3) := by decide +kernel
theorem d_Md_does_22 : decode M_Md_does.2.1 22 = .ok (.lconst 0, 1) := by decide +kernel
theorem d_Md_does_23 : decode M_Md_does.2.1 23 = .ok (.lcmp, 1) := by decide +kernel
theorem d_Md_does_24 : decode M_Md_does.2.1 24 = .ok (.ifCond .le 7, 3) := by decide +kernel
theorem d_Md_does_27 : decode M_Md_does.2.1 27 = .ok (.iconst 1, 1) := by decide +kernel
theorem d_Md_does_28 : decode M_Md_does.2.1 28 = .ok (.goto 4, 3) := by decide +kernel
theorem d_Md_does_31 : decode M_Md_does.2.1 31 = .ok (.iconst 0, 1) := by decide +kernel
theorem d_Md_does_32 : decode M_Md_does.2.1 32 = .ok (.ireturn, 1) := by decide +kernel
theorem d_Md_hats_0 : decode M_Md_hats.2.1 0 = .ok (.iconst 0, 1) := by decide +kernel
theorem d_Md_hats_1 : decode M_Md_hats.2.1 1 = .ok (.istore 5, 2) := by decide +kernel
theorem d_Md_hats_3 : decode M_Md_hats.2.1 3 = .ok (.iconst 0, 1) := by decide +kernel
theorem d_Md_hats_4 : decode M_Md_hats.2.1 4 = .ok (.istore 6, 2) := by decide +kernel
theorem d_Md_hats_6 : decode M_Md_hats.2.1 6 = .ok (.iload 6, 2) := by decide +kernel
theorem d_Md_hats_8 : decode M_Md_hats.2.1 8 = .ok (.aload_n 0, 1) := by decide +kernel
theorem d_Md_hats_9 : decode M_Md_hats.2.1 9 = .ok (.getfield 7, 3) := by decide +kernel
theorem d_Md_hats_12 : decode M_Md_hats.2.1 12 = .ok (.iconst 0, 1) := by decide +kernel
theorem d_Md_hats_13 : decode M_Md_hats.2.1 13 = .ok (.iaload, 1) := by decide +kernel
theorem d_Md_hats_14 : decode M_Md_hats.2.1 14 = .ok (.if_icmp .ge 46, 3) := by decide +kernel
theorem d_Md_hats_17 : decode M_Md_hats.2.1 17 = .ok (.aload_n 0, 1) := by decide +kernel
theorem d_Md_hats_18 : decode M_Md_hats.2.1 18 = .ok (.iload 6, 2) := by decide +kernel
theorem d_Md_hats_20 : decode M_Md_hats.2.1 20 = .ok (.invokevirtual 304, 3) := by decide +kernel
theorem d_Md_hats_23 : decode M_Md_hats.2.1 23 = .ok (.iload_n 1, 1) := by decide +kernel
theorem d_Md_hats_24 : decode M_Md_hats.2.1 24 = .ok (.if_icmp .ne 30, 3) := by decide +kernel
theorem d_Md_hats_27 : decode M_Md_hats.2.1 27 = .ok (.aload_n 0, 1) := by decide +kernel
theorem d_Md_hats_28 : decode M_Md_hats.2.1 28 = .ok (.iload 6, 2) := by decide +kernel
theorem d_Md_hats_30 : decode M_Md_hats.2.1 30 = .ok (.iload_n 2, 1) := by decide +kernel
theorem d_Md_hats_31 : decode M_Md_hats.2.1 31 = .ok (.iload_n 3, 1) := by decide +kernel
theorem d_Md_hats_32 : decode M_Md_hats.2.1 32 = .ok (.iload 4, 2) := by decide +kernel
theorem d_Md_hats_34 : decode M_Md_hats.2.1 34 = .ok (.invokevirtual 311, 3) := by decide +kernel
theorem d_Md_hats_37 : decode M_Md_hats.2.1 37 = .ok (.istore 7, 2) := by decide +kernel
theorem d_Md_hats_39 : decode M_Md_hats.2.1 39 = .ok (.iload 5, 2) := by decide +kernel
theorem d_Md_hats_41 : decode M_Md_hats.2.1 41 = .ok (.iload 7, 2) := by decide +kernel
theorem d_Md_hats_43 : decode M_Md_hats.2.1 43 = .ok (.ifCond .eq 7, 3) := by decide +kernel
theorem d_Md_hats_46 : decode M_Md_hats.2.1 46 = .ok (.iconst 1, 1) := by decide +kernel
theorem d_Md_hats_47 : decode M_Md_hats.2.1 47 = .ok (.goto 4, 3) := by decide +kernel
theorem d_Md_hats_50 : decode M_Md_hats.2.1 50 = .ok (.iconst 0, 1) := by decide +kernel
theorem d_Md_hats_51 : decode M_Md_hats.2.1 51 = .ok (.iadd, 1) := by decide +kernel
theorem d_Md_hats_52 : decode M_Md_hats.2.1 52 = .ok (.istore 5, 2) := by decide +kernel
theorem d_Md_hats_54 : decode M_Md_hats.2.1 54 = .ok (.iinc 6 1, 3) := by decide +kernel
theorem d_Md_hats_57 : decode M_Md_hats.2.1 57 = .ok (.goto (-51), 3) := by decide +kernel
theorem d_Md_hats_60 : decode M_Md_hats.2.1 60 = .ok (.iload 5, 2) := by decide +kernel
theorem d_Md_hats_62 : decode M_Md_hats.2.1 62 = .ok (.ireturn, 1) := by decide +kernel
theorem d_Md_of_0 : decode M_Md_of.2.1 0 = .ok (.iload_n 1, 1) := by decide +kernel
theorem d_Md_of_1 : decode M_Md_of.2.1 1 = .ok (.invokestatic 97, 3) := by decide +kernel
theorem d_Md_of_4 : decode M_Md_of.2.1 4 = .ok (.ifCond .eq 10, 3) := by decide +kernel
theorem d_Md_of_7 : decode M_Md_of.2.1 7 = .ok (.iload_n 2, 1) := by decide +kernel
theorem d_Md_of_8 : decode M_Md_of.2.1 8 = .ok (.invokestatic 93, 3) := by decide +kernel
theorem d_Md_of_11 : decode M_Md_of.2.1 11 = .ok (.ifCond .ne 5, 3) := by decide +kernel
theorem d_Md_of_14 : decode M_Md_of.2.1 14 = .ok (.iconst (-1), 1) := by decide +kernel
theorem d_Md_of_15 : decode M_Md_of.2.1 15 = .ok (.ireturn, 1) := by decide +kernel
theorem d_Md_of_16 : decode M_Md_of.2.1 16 = .ok (.iload_n 3, 1) := by decide +kernel
theorem d_Md_of_17 : decode M_Md_of.2.1 17 = .ok (.tableswitch 66 0 2 #[27, 37, 44], 27) := by decide +kernel
theorem d_Md_of_44 : decode M_Md_of.2.1 44 = .ok (.aload_n 0, 1) := by decide +kernel
theorem d_Md_of_45 : decode M_Md_of.2.1 45 = .ok (.getfield 7, 3) := by decide +kernel
theorem d_Md_of_48 : decode M_Md_of.2.1 48 = .ok (.bipush 10, 2) := by decide +kernel
theorem d_Md_of_50 : decode M_Md_of.2.1 50 = .ok (.iload_n 1, 1) := by decide +kernel
theorem d_Md_of_51 : decode M_Md_of.2.1 51 = .ok (.iadd, 1) := by decide +kernel
theorem d_Md_of_52 : decode M_Md_of.2.1 52 = .ok (.iaload, 1) := by decide +kernel
theorem d_Md_of_53 : decode M_Md_of.2.1 53 = .ok (.ireturn, 1) := by decide +kernel
theorem d_Md_of_54 : decode M_Md_of.2.1 54 = .ok (.aload_n 0, 1) := by decide +kernel
theorem d_Md_of_55 : decode M_Md_of.2.1 55 = .ok (.iload_n 1, 1) := by decide +kernel
theorem d_Md_of_56 : decode M_Md_of.2.1 56 = .ok (.iload_n 2, 1) := by decide +kernel
theorem d_Md_of_57 : decode M_Md_of.2.1 57 = .ok (.invokevirtual 291, 3) := by decide +kernel
theorem d_Md_of_60 : decode M_Md_of.2.1 60 = .ok (.ireturn, 1) := by decide +kernel
theorem d_Md_of_61 : decode M_Md_of.2.1 61 = .ok (.aload_n 0, 1) := by decide +kernel
theorem d_Md_of_62 : decode M_Md_of.2.1 62 = .ok (.iload_n 2, 1) := by decide +kernel
theorem d_Md_of_63 : decode M_Md_of.2.1 63 = .ok (.iload_n 1, 1) := by decide +kernel
theorem d_Md_of_64 : decode M_Md_of.2.1 64 = .ok (.aload_n 0, 1) := by decide +kernel
theorem d_Md_of_65 : decode M_Md_of.2.1 65 = .ok (.getfield 7, 3) := by decide +kernel
theorem d_Md_of_68 : decode M_Md_of.2.1 68 = .ok (.bipush 10, 2) := by decide +kernel
theorem d_Md_of_70 : decode M_Md_of.2.1 70 = .ok (.iload_n 1, 1) := by decide +kernel
theorem d_Md_of_71 : decode M_Md_of.2.1 71 = .ok (.iadd, 1) := by decide +kernel
theorem d_Md_of_72 : decode M_Md_of.2.1 72 = .ok (.iaload, 1) := by decide +kernel
theorem d_Md_of_73 : decode M_Md_of.2.1 73 = .ok (.aload_n 0, 1) := by decide +kernel
theorem d_Md_of_74 : decode M_Md_of.2.1 74 = .ok (.iload_n 1, 1) := by decide +kernel
theorem d_Md_of_75 : decode M_Md_of.2.1 75 = .ok (.iload_n 2, 1) := by decide +kernel
theorem d_Md_of_76 : decode M_Md_of.2.1 76 = .ok (.invokevirtual 291, 3) := by decide +kernel
theorem d_Md_of_79 : decode M_Md_of.2.1 79 = .ok (.invokevirtual 315, 3) := by decide +kernel
theorem d_Md_of_82 : decode M_Md_of.2.1 82 = .ok (.ireturn, 1) := by decide +kernel
theorem d_Md_of_83 : decode M_Md_of.2.1 83 = .ok (.iconst (-1), 1) := by decide +kernel
theorem d_Md_of_84 : decode M_Md_of.2.1 84 = .ok (.ireturn, 1) := by decide +kernel
theorem d_Md_isFolk_0 : decode M_Md_isFolk.2.1 0 = .ok (.iload_n 1, 1) := by decide +kernel
theorem d_Md_isFolk_1 : decode M_Md_isFolk.2.1 1 = .ok (.iconst 0, 1) := by decide +kernel
theorem d_Md_isFolk_2 : decode M_Md_isFolk.2.1 2 = .ok (.aload_n 0, 1) := by decide +kernel
theorem d_Md_isFolk_3 : decode M_Md_isFolk.2.1 3 = .ok (.getfield 7, 3) := by decide +kernel
theorem d_Md_isFolk_6 : decode M_Md_isFolk.2.1 6 = .ok (.iconst 0, 1) := by decide +kernel
theorem d_Md_isFolk_7 : decode M_Md_isFolk.2.1 7 = .ok (.iaload, 1) := by decide +kernel
theorem d_Md_isFolk_8 : decode M_Md_isFolk.2.1 8 = .ok (.iconst 1, 1) := by decide +kernel
theorem d_Md_isFolk_9 : decode M_Md_isFolk.2.1 9 = .ok (.isub, 1) := by decide +kernel
theorem d_Md_isFolk_10 : decode M_Md_isFolk.2.1 10 = .ok (.invokestatic 89, 3) := by decide +kernel
theorem d_Md_isFolk_13 : decode M_Md_isFolk.2.1 13 = .ok (.ireturn, 1) := by decide +kernel
theorem d_Md_appeals_0 : decode M_Md_appeals.2.1 0 = .ok (.aload_n 0, 1) := by decide +kernel
theorem d_Md_appeals_1 : decode M_Md_appeals.2.1 1 = .ok (.iconst 4, 1) := by decide +kernel
theorem d_Md_appeals_2 : decode M_Md_appeals.2.1 2 = .ok (.invokevirtual 295, 3) := by decide +kernel
theorem d_Md_appeals_5 : decode M_Md_appeals.2.1 5 = .ok (.ifCond .ne 5, 3) := by decide +kernel
theorem d_Md_appeals_8 : decode M_Md_appeals.2.1 8 = .ok (.iconst 0, 1) := by decide +kernel
theorem d_Md_appeals_9 : decode M_Md_appeals.2.1 9 = .ok (.ireturn, 1) := by decide +kernel
theorem d_Md_appeals_10 : decode M_Md_appeals.2.1 10 = .ok (.aload_n 0, 1) := by decide +kernel
theorem d_Md_appeals_11 : decode M_Md_appeals.2.1 11 = .ok (.aload_n 0, 1) := by decide +kernel
theorem d_Md_appeals_12 : decode M_Md_appeals.2.1 12 = .ok (.iload_n 1, 1) := by decide +kernel
theorem d_Md_appeals_13 : decode M_Md_appeals.2.1 13 = .ok (.invokevirtual 304, 3) := by decide +kernel
theorem d_Md_appeals_16 : decode M_Md_appeals.2.1 16 = .ok (.iload_n 2, 1) := by decide +kernel
theorem d_Md_appeals_17 : decode M_Md_appeals.2.1 17 = .ok (.iload_n 3, 1) := by decide +kernel
theorem d_Md_appeals_18 : decode M_Md_appeals.2.1 18 = .ok (.iload 4, 2) := by decide +kernel
theorem d_Md_appeals_20 : decode M_Md_appeals.2.1 20 = .ok (.invokevirtual 315, 3) := by decide +kernel
theorem d_Md_appeals_23 : decode M_Md_appeals.2.1 23 = .ok (.istore 5, 2) := by decide +kernel
theorem d_Md_appeals_25 : decode M_Md_appeals.2.1 25 = .ok (.aload_n 0, 1) := by decide +kernel
theorem d_Md_appeals_26 : decode M_Md_appeals.2.1 26 = .ok (.iload_n 1, 1) := by decide +kernel
theorem d_Md_appeals_27 : decode M_Md_appeals.2.1 27 = .ok (.iload_n 2, 1) := by decide +kernel
theorem d_Md_appeals_28 : decode M_Md_appeals.2.1 28 = .ok (.iload_n 3, 1) := by decide +kernel
theorem d_Md_appeals_29 : decode M_Md_appeals.2.1 29 = .ok (.iload 4, 2) := by decide +kernel
theorem d_Md_appeals_31 : decode M_Md_appeals.2.1 31 = .ok (.invokevirtual 307, 3) := by decide +kernel
theorem d_Md_appeals_34 : decode M_Md_appeals.2.1 34 = .ok (.aload_n 0, 1) := by decide +kernel
theorem d_Md_appeals_35 : decode M_Md_appeals.2.1 35 = .ok (.getfield 66, 3) := by decide +kernel
theorem d_Md_appeals_38 : decode M_Md_appeals.2.1 38 = .ok (.bipush 10, 2) := by decide +kernel
theorem d_Md_appeals_40 : decode M_Md_appeals.2.1 40 = .ok (.iload 5, 2) := by decide +kernel
theorem d_Md_appeals_42 : decode M_Md_appeals.2.1 42 = .ok (.iastore, 1) := by decide +kernel
theorem d_Md_appeals_43 : decode M_Md_appeals.2.1 43 = .ok (.aload_n 0, 1) := by decide +kernel
theorem d_Md_appeals_44 : decode M_Md_appeals.2.1 44 = .ok (.iconst 4, 1) := by decide +kernel
theorem d_Md_appeals_45 : decode M_Md_appeals.2.1 45 = .ok (.invokevirtual 301, 3) := by decide +kernel
theorem d_Md_appeals_48 : decode M_Md_appeals.2.1 48 = .ok (.lconst 0, 1) := by decide +kernel
theorem d_Md_appeals_49 : decode M_Md_appeals.2.1 49 = .ok (.lcmp, 1) := by decide +kernel
theorem d_Md_appeals_50 : decode M_Md_appeals.2.1 50 = .ok (.ifCond .le 7, 3) := by decide +kernel
theorem d_Md_appeals_53 : decode M_Md_appeals.2.1 53 = .ok (.iconst 1, 1) := by decide +kernel
theorem d_Md_appeals_54 : decode M_Md_appeals.2.1 54 = .ok (.goto 4, 3) := by decide +kernel
theorem d_Md_appeals_57 : decode M_Md_appeals.2.1 57 = .ok (.iconst 0, 1) := by decide +kernel
theorem d_Md_appeals_58 : decode M_Md_appeals.2.1 58 = .ok (.ireturn, 1) := by decide +kernel
theorem d_Md_held_0 : decode M_Md_held.2.1 0 = .ok (.lload_n 0, 1) := by decide +kernel
theorem d_Md_held_1 : decode M_Md_held.2.1 1 = .ok (.iload_n 2, 1) := by decide +kernel
theorem d_Md_held_2 : decode M_Md_held.2.1 2 = .ok (.i2l, 1) := by decide +kernel
theorem d_Md_held_3 : decode M_Md_held.2.1 3 = .ok (.lcmp, 1) := by decide +kernel
theorem d_Md_held_4 : decode M_Md_held.2.1 4 = .ok (.ifCond .ge 7, 3) := by decide +kernel
theorem d_Md_held_7 : decode M_Md_held.2.1 7 = .ok (.iload_n 2, 1) := by decide +kernel
theorem d_Md_held_8 : decode M_Md_held.2.1 8 = .ok (.goto 16, 3) := by decide +kernel
theorem d_Md_held_11 : decode M_Md_held.2.1 11 = .ok (.lload_n 0, 1) := by decide +kernel
theorem d_Md_held_12 : decode M_Md_held.2.1 12 = .ok (.iload_n 3, 1) := by decide +kernel
theorem d_Md_held_13 : decode M_Md_held.2.1 13 = .ok (.i2l, 1) := by decide +kernel
theorem d_Md_held_14 : decode M_Md_held.2.1 14 = .ok (.lcmp, 1) := by decide +kernel
theorem d_Md_held_15 : decode M_Md_held.2.1 15 = .ok (.ifCond .le 7, 3) := by decide +kernel
theorem d_Md_held_18 : decode M_Md_held.2.1 18 = .ok (.iload_n 3, 1) := by decide +kernel
theorem d_Md_held_19 : decode M_Md_held.2.1 19 = .ok (.goto 5, 3) := by decide +kernel
theorem d_Md_held_22 : decode M_Md_held.2.1 22 = .ok (.lload_n 0, 1) := by decide +kernel
theorem d_Md_held_23 : decode M_Md_held.2.1 23 = .ok (.l2i, 1) := by decide +kernel
theorem d_Md_held_24 : decode M_Md_held.2.1 24 = .ok (.ireturn, 1) := by decide +kernel
theorem d_Md_fineOf_0 : decode M_Md_fineOf.2.1 0 = .ok (.aload_n 0, 1) := by decide +kernel
theorem d_Md_fineOf_1 : decode M_Md_fineOf.2.1 1 = .ok (.iconst 3, 1) := by decide +kernel
theorem d_Md_fineOf_2 : decode M_Md_fineOf.2.1 2 = .ok (.invokevirtual 295, 3) := by decide +kernel
theorem d_Md_fineOf_5 : decode M_Md_fineOf.2.1 5 = .ok (.ifCond .eq 15, 3) := by decide +kernel
theorem d_Md_fineOf_8 : decode M_Md_fineOf.2.1 8 = .ok (.aload_n 0, 1) := by decide +kernel
theorem d_Md_fineOf_9 : decode M_Md_fineOf.2.1 9 = .ok (.iload_n 1, 1) := by decide +kernel
theorem d_Md_fineOf_10 : decode M_Md_fineOf.2.1 10 = .ok (.iload_n 2, 1) := by decide +kernel
theorem d_Md_fineOf_11 : decode M_Md_fineOf.2.1 11 = .ok (.iload_n 3, 1) := by decide +kernel
theorem d_Md_fineOf_12 : decode M_Md_fineOf.2.1 12 = .ok (.iload 4, 2) := by decide +kernel
theorem d_Md_fineOf_14 : decode M_Md_fineOf.2.1 14 = .ok (.invokevirtual 319, 3) := by decide +kernel
theorem d_Md_fineOf_17 : decode M_Md_fineOf.2.1 17 = .ok (.ifCond .eq 5, 3) := by decide +kernel
theorem d_Md_fineOf_20 : decode M_Md_fineOf.2.1 20 = .ok (.iconst 0, 1) := by decide +kernel
theorem d_Md_fineOf_21 : decode M_Md_fineOf.2.1 21 = .ok (.ireturn, 1) := by decide +kernel
theorem d_Md_fineOf_22 : decode M_Md_fineOf.2.1 22 = .ok (.aload_n 0, 1) := by decide +kernel
theorem d_Md_fineOf_23 : decode M_Md_fineOf.2.1 23 = .ok (.iload_n 1, 1) := by decide +kernel
theorem d_Md_fineOf_24 : decode M_Md_fineOf.2.1 24 = .ok (.iload_n 2, 1) := by decide +kernel
theorem d_Md_fineOf_25 : decode M_Md_fineOf.2.1 25 = .ok (.iload_n 3, 1) := by decide +kernel
theorem d_Md_fineOf_26 : decode M_Md_fineOf.2.1 26 = .ok (.iload 4, 2) := by decide +kernel
theorem d_Md_fineOf_28 : decode M_Md_fineOf.2.1 28 = .ok (.invokevirtual 311, 3) := by decide +kernel
theorem d_Md_fineOf_31 : decode M_Md_fineOf.2.1 31 = .ok (.istore 5, 2) := by decide +kernel
theorem d_Md_fineOf_33 : decode M_Md_fineOf.2.1 33 = .ok (.aload_n 0, 1) := by decide +kernel
theorem d_Md_fineOf_34 : decode M_Md_fineOf.2.1 34 = .ok (.getfield 66, 3) := by decide +kernel
theorem d_Md_fineOf_37 : decode M_Md_fineOf.2.1 37 = .ok (.bipush 8, 2) := by decide +kernel
theorem d_Md_fineOf_39 : decode M_Md_fineOf.2.1 39 = .ok (.iload 5, 2) := by decide +kernel
theorem d_Md_fineOf_41 : decode M_Md_fineOf.2.1 41 = .ok (.ifCond .eq 7, 3) := by decide +kernel
theorem d_Md_fineOf_44 : decode M_Md_fineOf.2.1 44 = .ok (.iconst 1, 1) := by decide +kernel
theorem d_Md_fineOf_45 : decode M_Md_fineOf.2.1 45 = .ok (.goto 4, 3) := by decide +kernel
theorem d_Md_fineOf_48 : decode M_Md_fineOf.2.1 48 = .ok (.iconst 0, 1) := by decide +kernel
theorem d_Md_fineOf_49 : decode M_Md_fineOf.2.1 49 = .ok (.iastore, 1) := by decide +kernel
theorem d_Md_fineOf_50 : decode M_Md_fineOf.2.1 50 = .ok (.aload_n 0, 1) := by decide +kernel
theorem d_Md_fineOf_51 : decode M_Md_fineOf.2.1 51 = .ok (.iconst 3, 1) := by decide +kernel
theorem d_Md_fineOf_52 : decode M_Md_fineOf.2.1 52 = .ok (.invokevirtual 301, 3) := by decide +kernel
theorem d_Md_fineOf_55 : decode M_Md_fineOf.2.1 55 = .ok (.iconst 0, 1) := by decide +kernel
theorem d_Md_fineOf_56 : decode M_Md_fineOf.2.1 56 = .ok (.sipush 999, 3) := by decide +kernel
theorem d_Md_fineOf_59 : decode M_Md_fineOf.2.1 59 = .ok (.invokestatic 322, 3) := by decide +kernel
theorem d_Md_fineOf_62 : decode M_Md_fineOf.2.1 62 = .ok (.ireturn, 1) := by decide +kernel
theorem d_Md_on_0 : decode M_Md_on.2.1 0 = .ok (.aload_n 0, 1) := by decide +kernel
theorem d_Md_on_1 : decode M_Md_on.2.1 1 = .ok (.iload_n 1, 1) := by decide +kernel
theorem d_Md_on_2 : decode M_Md_on.2.1 2 = .ok (.invokevirtual 333, 3) := by decide +kernel
theorem d_Md_on_5 : decode M_Md_on.2.1 5 = .ok (.ifCond .eq 19, 3) := by decide +kernel
theorem d_Md_on_8 : decode M_Md_on.2.1 8 = .ok (.iload_n 2, 1) := by decide +kernel
theorem d_Md_on_9 : decode M_Md_on.2.1 9 = .ok (.invokestatic 97, 3) := by decide +kernel
theorem d_Md_on_12 : decode M_Md_on.2.1 12 = .ok (.ifCond .eq 12, 3) := by decide +kernel
theorem d_Md_on_15 : decode M_Md_on.2.1 15 = .ok (.iload_n 3, 1) := by decide +kernel
theorem d_Md_on_16 : decode M_Md_on.2.1 16 = .ok (.iconst 0, 1) := by decide +kernel
theorem d_Md_on_17 : decode M_Md_on.2.1 17 = .ok (.iconst 2, 1) := by decide +kernel
theorem d_Md_on_18 : decode M_Md_on.2.1 18 = .ok (.invokestatic 89, 3) := by decide +kernel
theorem d_Md_on_21 : decode M_Md_on.2.1 21 = .ok (.ifCond .ne 5, 3) := by decide +kernel
theorem d_Md_on_24 : decode M_Md_on.2.1 24 = .ok (.iconst (-1), 1) := by decide +kernel
theorem d_Md_on_25 : decode M_Md_on.2.1 25 = .ok (.ireturn, 1) := by decide +kernel
theorem d_Md_on_26 : decode M_Md_on.2.1 26 = .ok (.aload_n 0, 1) := by decide +kernel
theorem d_Md_on_27 : decode M_Md_on.2.1 27 = .ok (.getfield 7, 3) := by decide +kernel
theorem d_Md_on_30 : decode M_Md_on.2.1 30 = .ok (.bipush 10, 2) := by decide +kernel
theorem d_Md_on_32 : decode M_Md_on.2.1 32 = .ok (.iload_n 2, 1) := by decide +kernel
theorem d_Md_on_33 : decode M_Md_on.2.1 33 = .ok (.iadd, 1) := by decide +kernel
theorem d_Md_on_34 : decode M_Md_on.2.1 34 = .ok (.iaload, 1) := by decide +kernel
theorem d_Md_on_35 : decode M_Md_on.2.1 35 = .ok (.istore 4, 2) := by decide +kernel
theorem d_Md_on_37 : decode M_Md_on.2.1 37 = .ok (.aload_n 0, 1) := by decide +kernel
theorem d_Md_on_38 : decode M_Md_on.2.1 38 = .ok (.iload_n 2, 1) := by decide +kernel
theorem d_Md_on_39 : decode M_Md_on.2.1 39 = .ok (.aload_n 0, 1) := by decide +kernel
theorem d_Md_on_40 : decode M_Md_on.2.1 40 = .ok (.iload_n 1, 1) := by decide +kernel
theorem d_Md_on_41 : decode M_Md_on.2.1 41 = .ok (.invokevirtual 304, 3) := by decide +kernel
theorem d_Md_on_44 : decode M_Md_on.2.1 44 = .ok (.invokevirtual 291, 3) := by decide +kernel
theorem d_Md_on_47 : decode M_Md_on.2.1 47 = .ok (.istore 5, 2) := by decide +kernel
theorem d_Md_on_49 : decode M_Md_on.2.1 49 = .ok (.iload_n 3, 1) := by decide +kernel
theorem d_Md_on_50 : decode M_Md_on.2.1 50 = .ok (.iconst 1, 1) := by decide +kernel
theorem d_Md_on_51 : decode M_Md_on.2.1 51 = .ok (.if_icmp .ne 14, 3) := by decide +kernel
theorem d_Md_on_54 : decode M_Md_on.2.1 54 = .ok (.aload_n 0, 1) := by decide +kernel
theorem d_Md_on_55 : decode M_Md_on.2.1 55 = .ok (.iload_n 1, 1) := by decide +kernel
theorem d_Md_on_56 : decode M_Md_on.2.1 56 = .ok (.iload_n 2, 1) := by decide +kernel
theorem d_Md_on_57 : decode M_Md_on.2.1 57 = .ok (.iload 4, 2) := by decide +kernel
theorem d_Md_on_59 : decode M_Md_on.2.1 59 = .ok (.iload 5, 2) := by decide +kernel
theorem d_Md_on_61 : decode M_Md_on.2.1 61 = .ok (.invokevirtual 326, 3) := by decide +kernel
theorem d_Md_on_64 : decode M_Md_on.2.1 64 = .ok (.ireturn, 1) := by decide +kernel
theorem d_Md_on_65 : decode M_Md_on.2.1 65 = .ok (.iload_n 3, 1) := by decide +kernel
theorem d_Md_on_66 : decode M_Md_on.2.1 66 = .ok (.ifCond .ne 16, 3) := by decide +kernel
theorem d_Md_on_69 : decode M_Md_on.2.1 69 = .ok (.aload_n 0, 1) := by decide +kernel
theorem d_Md_on_70 : decode M_Md_on.2.1 70 = .ok (.iload_n 1, 1) := by decide +kernel
theorem d_Md_on_71 : decode M_Md_on.2.1 71 = .ok (.iload_n 2, 1) := by decide +kernel
theorem d_Md_on_72 : decode M_Md_on.2.1 72 = .ok (.iload 4, 2) := by decide +kernel
theorem d_Md_on_74 : decode M_Md_on.2.1 74 = .ok (.iload 5, 2) := by decide +kernel
theorem d_Md_on_76 : decode M_Md_on.2.1 76 = .ok (.invokevirtual 311, 3) := by decide +kernel
theorem d_Md_on_79 : decode M_Md_on.2.1 79 = .ok (.goto 13, 3) := by decide +kernel
theorem d_Md_on_82 : decode M_Md_on.2.1 82 = .ok (.aload_n 0, 1) := by decide +kernel
theorem d_Md_on_83 : decode M_Md_on.2.1 83 = .ok (.iload_n 1, 1) := by decide +kernel
theorem d_Md_on_84 : decode M_Md_on.2.1 84 = .ok (.iload_n 2, 1) := by decide +kernel
theorem d_Md_on_85 : decode M_Md_on.2.1 85 = .ok (.iload 4, 2) := by decide +kernel
theorem d_Md_on_87 : decode M_Md_on.2.1 87 = .ok (.iload 5, 2) := by decide +kernel
theorem d_Md_on_89 : decode M_Md_on.2.1 89 = .ok (.invokevirtual 319, 3) := by decide +kernel
theorem d_Md_on_92 : decode M_Md_on.2.1 92 = .ok (.istore 6, 2) := by decide +kernel
theorem d_Md_on_94 : decode M_Md_on.2.1 94 = .ok (.iload 6, 2) := by decide +kernel
theorem d_Md_on_96 : decode M_Md_on.2.1 96 = .ok (.ifCond .eq 7, 3) := by decide +kernel
theorem d_Md_on_99 : decode M_Md_on.2.1 99 = .ok (.iconst 1, 1) := by decide +kernel
theorem d_Md_on_100 : decode M_Md_on.2.1 100 = .ok (.goto 4, 3) := by decide +kernel
theorem d_Md_on_103 : decode M_Md_on.2.1 103 = .ok (.iconst 0, 1) := by decide +kernel
theorem d_Md_on_104 : decode M_Md_on.2.1 104 = .ok (.ireturn, 1) := by decide +kernel
theorem d_Md_gainOf_0 : decode M_Md_gainOf.2.1 0 = .ok (.aload_n 0, 1) := by decide +kernel
theorem d_Md_gainOf_1 : decode M_Md_gainOf.2.1 1 = .ok (.iload_n 1, 1) := by decide +kernel
theorem d_Md_gainOf_2 : decode M_Md_gainOf.2.1 2 = .ok (.iload_n 2, 1) := by decide +kernel
theorem d_Md_gainOf_3 : decode M_Md_gainOf.2.1 3 = .ok (.iload_n 3, 1) := by decide +kernel
theorem d_Md_gainOf_4 : decode M_Md_gainOf.2.1 4 = .ok (.iload 4, 2) := by decide +kernel
theorem d_Md_gainOf_6 : decode M_Md_gainOf.2.1 6 = .ok (.invokevirtual 326, 3) := by decide +kernel
theorem d_Md_gainOf_9 : decode M_Md_gainOf.2.1 9 = .ok (.istore 6, 2) := by decide +kernel
theorem d_Md_gainOf_11 : decode M_Md_gainOf.2.1 11 = .ok (.aload_n 0, 1) := by decide +kernel
theorem d_Md_gainOf_12 : decode M_Md_gainOf.2.1 12 = .ok (.iload_n 1, 1) := by decide +kernel
theorem d_Md_gainOf_13 : decode M_Md_gainOf.2.1 13 = .ok (.iload_n 2, 1) := by decide +kernel
theorem d_Md_gainOf_14 : decode M_Md_gainOf.2.1 14 = .ok (.iload_n 3, 1) := by decide +kernel
theorem d_Md_gainOf_15 : decode M_Md_gainOf.2.1 15 = .ok (.iload 4, 2) := by decide +kernel
theorem d_Md_gainOf_17 : decode M_Md_gainOf.2.1 17 = .ok (.invokevirtual 311, 3) := by decide +kernel
theorem d_Md_gainOf_20 : decode M_Md_gainOf.2.1 20 = .ok (.istore 7, 2) := by decide +kernel
theorem d_Md_gainOf_22 : decode M_Md_gainOf.2.1 22 = .ok (.aload_n 0, 1) := by decide +kernel
theorem d_Md_gainOf_23 : decode M_Md_gainOf.2.1 23 = .ok (.getfield 66, 3) := by decide +kernel
theorem d_Md_gainOf_26 : decode M_Md_gainOf.2.1 26 = .ok (.bipush 8, 2) := by decide +kernel
theorem d_Md_gainOf_28 : decode M_Md_gainOf.2.1 28 = .ok (.iload 7, 2) := by decide +kernel
theorem d_Md_gainOf_30 : decode M_Md_gainOf.2.1 30 = .ok (.ifCond .eq 7, 3) := by decide +kernel
theorem d_Md_gainOf_33 : decode M_Md_gainOf.2.1 33 = .ok (.iconst 1, 1) := by decide +kernel
theorem d_Md_gainOf_34 : decode M_Md_gainOf.2.1 34 = .ok (.goto 4, 3) := by decide +kernel
theorem d_Md_gainOf_37 : decode M_Md_gainOf.2.1 37 = .ok (.iconst 0, 1) := by decide +kernel
theorem d_Md_gainOf_38 : decode M_Md_gainOf.2.1 38 = .ok (.iastore, 1) := by decide +kernel
theorem d_Md_gainOf_39 : decode M_Md_gainOf.2.1 39 = .ok (.aload_n 0, 1) := by decide +kernel
theorem d_Md_gainOf_40 : decode M_Md_gainOf.2.1 40 = .ok (.getfield 66, 3) := by decide +kernel
theorem d_Md_gainOf_43 : decode M_Md_gainOf.2.1 43 = .ok (.bipush 9, 2) := by decide +kernel
theorem d_Md_gainOf_45 : decode M_Md_gainOf.2.1 45 = .ok (.iload 5, 2) := by decide +kernel
theorem d_Md_gainOf_47 : decode M_Md_gainOf.2.1 47 = .ok (.ifCond .eq 8, 3) := by decide +kernel
theorem d_Md_gainOf_50 : decode M_Md_gainOf.2.1 50 = .ok (.iload 4, 2) := by decide +kernel
theorem d_Md_gainOf_52 : decode M_Md_gainOf.2.1 52 = .ok (.goto 13, 3) := by decide +kernel
theorem d_Md_gainOf_55 : decode M_Md_gainOf.2.1 55 = .ok (.iload_n 3, 1) := by decide +kernel
theorem d_Md_gainOf_56 : decode M_Md_gainOf.2.1 56 = .ok (.iconst 5, 1) := by decide +kernel
theorem d_Md_gainOf_57 : decode M_Md_gainOf.2.1 57 = .ok (.if_icmp .lt 7, 3) := by decide +kernel
theorem d_Md_gainOf_60 : decode M_Md_gainOf.2.1 60 = .ok (.iconst 1, 1) := by decide +kernel
theorem d_Md_gainOf_61 : decode M_Md_gainOf.2.1 61 = .ok (.goto 4, 3) := by decide +kernel
theorem d_Md_gainOf_64 : decode M_Md_gainOf.2.1 64 = .ok (.iconst 0, 1) := by decide +kernel
theorem d_Md_gainOf_65 : decode M_Md_gainOf.2.1 65 = .ok (.iastore, 1) := by decide +kernel
theorem d_Md_gainOf_66 : decode M_Md_gainOf.2.1 66 = .ok (.aload_n 0, 1) := by decide +kernel
theorem d_Md_gainOf_67 : decode M_Md_gainOf.2.1 67 = .ok (.iconst 2, 1) := by decide +kernel
theorem d_Md_gainOf_68 : decode M_Md_gainOf.2.1 68 = .ok (.invokevirtual 295, 3) := by decide +kernel
theorem d_Md_gainOf_71 : decode M_Md_gainOf.2.1 71 = .ok (.ifCond .eq 20, 3) := by decide +kernel
theorem d_Md_gainOf_74 : decode M_Md_gainOf.2.1 74 = .ok (.aload_n 0, 1) := by decide +kernel
theorem d_Md_gainOf_75 : decode M_Md_gainOf.2.1 75 = .ok (.iconst 2, 1) := by decide +kernel
theorem d_Md_gainOf_76 : decode M_Md_gainOf.2.1 76 = .ok (.invokevirtual 301, 3) := by decide +kernel
theorem d_Md_gainOf_79 : decode M_Md_gainOf.2.1 79 = .ok (.sipush (-9999), 3) := by decide +kernel
theorem d_Md_gainOf_82 : decode M_Md_gainOf.2.1 82 = .ok (.sipush 9999, 3) := by decide +kernel
theorem d_Md_gainOf_85 : decode M_Md_gainOf.2.1 85 = .ok (.invokestatic 322, 3) := by decide +kernel
theorem d_Md_gainOf_88 : decode M_Md_gainOf.2.1 88 = .ok (.goto 4, 3) := by decide +kernel
theorem d_Md_gainOf_91 : decode M_Md_gainOf.2.1 91 = .ok (.iconst 0, 1) := by decide +kernel
theorem d_Md_gainOf_92 : decode M_Md_gainOf.2.1 92 = .ok (.iload 6, 2) := by decide +kernel
theorem d_Md_gainOf_94 : decode M_Md_gainOf.2.1 94 = .ok (.isub, 1) := by decide +kernel
theorem d_Md_gainOf_95 : decode M_Md_gainOf.2.1 95 = .ok (.ireturn, 1) := by decide +kernel
theorem d_Md_gainAsIs_0 : decode M_Md_gainAsIs.2.1 0 = .ok (.aload_n 0, 1) := by decide +kernel
theorem d_Md_gainAsIs_1 : decode M_Md_gainAsIs.2.1 1 = .ok (.iload_n 1, 1) := by decide +kernel
theorem d_Md_gainAsIs_2 : decode M_Md_gainAsIs.2.1 2 = .ok (.iload_n 2, 1) := by decide +kernel
theorem d_Md_gainAsIs_3 : decode M_Md_gainAsIs.2.1 3 = .ok (.aload_n 0, 1) := by decide +kernel
theorem d_Md_gainAsIs_4 : decode M_Md_gainAsIs.2.1 4 = .ok (.getfield 7, 3) := by decide +kernel
theorem d_Md_gainAsIs_7 : decode M_Md_gainAsIs.2.1 7 = .ok (.bipush 10, 2) := by decide +kernel
theorem d_Md_gainAsIs_9 : decode M_Md_gainAsIs.2.1 9 = .ok (.iload_n 2, 1) := by decide +kernel
theorem d_Md_gainAsIs_10 : decode M_Md_gainAsIs.2.1 10 = .ok (.iadd, 1) := by decide +kernel
theorem d_Md_gainAsIs_11 : decode M_Md_gainAsIs.2.1 11 = .ok (.iaload, 1) := by decide +kernel
theorem d_Md_gainAsIs_12 : decode M_Md_gainAsIs.2.1 12 = .ok (.aload_n 0, 1) := by decide +kernel
theorem d_Md_gainAsIs_13 : decode M_Md_gainAsIs.2.1 13 = .ok (.iload_n 2, 1) := by decide +kernel
theorem d_Md_gainAsIs_14 : decode M_Md_gainAsIs.2.1 14 = .ok (.aload_n 0, 1) := by decide +kernel
theorem d_Md_gainAsIs_15 : decode M_Md_gainAsIs.2.1 15 = .ok (.iload_n 1, 1) := by decide +kernel
theorem d_Md_gainAsIs_16 : decode M_Md_gainAsIs.2.1 16 = .ok (.invokevirtual 304, 3) := by decide +kernel
theorem d_Md_gainAsIs_19 : decode M_Md_gainAsIs.2.1 19 = .ok (.invokevirtual 291, 3) := by decide +kernel
theorem d_Md_gainAsIs_22 : decode M_Md_gainAsIs.2.1 22 = .ok (.iload_n 3, 1) := by decide +kernel
theorem d_Md_gainAsIs_23 : decode M_Md_gainAsIs.2.1 23 = .ok (.invokevirtual 329, 3) := by decide +kernel
theorem d_Md_gainAsIs_26 : decode M_Md_gainAsIs.2.1 26 = .ok (.ireturn, 1) := by decide +kernel
theorem d_Md_gain_0 : decode M_Md_gain.2.1 0 = .ok (.aload_n 0, 1) := by decide +kernel
theorem d_Md_gain_1 : decode M_Md_gain.2.1 1 = .ok (.iload_n 1, 1) := by decide +kernel
theorem d_Md_gain_2 : decode M_Md_gain.2.1 2 = .ok (.invokevirtual 333, 3) := by decide +kernel
theorem d_Md_gain_5 : decode M_Md_gain.2.1 5 = .ok (.ifCond .eq 20, 3) := by decide +kernel
theorem d_Md_gain_8 : decode M_Md_gain.2.1 8 = .ok (.iload_n 2, 1) := by decide +kernel
theorem d_Md_gain_9 : decode M_Md_gain.2.1 9 = .ok (.invokestatic 97, 3) := by decide +kernel
theorem d_Md_gain_12 : decode M_Md_gain.2.1 12 = .ok (.ifCond .eq 13, 3) := by decide +kernel
theorem d_Md_gain_15 : decode M_Md_gain.2.1 15 = .ok (.aload_n 0, 1) := by decide +kernel
theorem d_Md_gain_16 : decode M_Md_gain.2.1 16 = .ok (.iload_n 1, 1) := by decide +kernel
theorem d_Md_gain_17 : decode M_Md_gain.2.1 17 = .ok (.iload_n 2, 1) := by decide +kernel
theorem d_Md_gain_18 : decode M_Md_gain.2.1 18 = .ok (.iload_n 3, 1) := by decide +kernel
theorem d_Md_gain_19 : decode M_Md_gain.2.1 19 = .ok (.invokevirtual 336, 3) := by decide +kernel
theorem d_Md_gain_22 : decode M_Md_gain.2.1 22 = .ok (.goto 6, 3) := by decide +kernel
theorem d_Md_gain_25 : decode M_Md_gain.2.1 25 = .ok (.ldc_w 340, 3) := by decide +kernel
theorem d_Md_gain_28 : decode M_Md_gain.2.1 28 = .ok (.ireturn, 1) := by decide +kernel
theorem d_Md_sumOf_0 : decode M_Md_sumOf.2.1 0 = .ok (.iconst 0, 1) := by decide +kernel
theorem d_Md_sumOf_1 : decode M_Md_sumOf.2.1 1 = .ok (.istore 5, 2) := by decide +kernel
theorem d_Md_sumOf_3 : decode M_Md_sumOf.2.1 3 = .ok (.iload_n 2, 1) := by decide +kernel
theorem d_Md_sumOf_4 : decode M_Md_sumOf.2.1 4 = .ok (.istore 6, 2) := by decide +kernel
theorem d_Md_sumOf_6 : decode M_Md_sumOf.2.1 6 = .ok (.iload 6, 2) := by decide +kernel
theorem d_Md_sumOf_8 : decode M_Md_sumOf.2.1 8 = .ok (.iload_n 3, 1) := by decide +kernel
theorem d_Md_sumOf_9 : decode M_Md_sumOf.2.1 9 = .ok (.if_icmp .gt 23, 3) := by decide +kernel
theorem d_Md_sumOf_12 : decode M_Md_sumOf.2.1 12 = .ok (.iload 5, 2) := by decide +kernel
theorem d_Md_sumOf_14 : decode M_Md_sumOf.2.1 14 = .ok (.aload_n 0, 1) := by decide +kernel
theorem d_Md_sumOf_15 : decode M_Md_sumOf.2.1 15 = .ok (.iload_n 1, 1) := by decide +kernel
theorem d_Md_sumOf_16 : decode M_Md_sumOf.2.1 16 = .ok (.iload 6, 2) := by decide +kernel
theorem d_Md_sumOf_18 : decode M_Md_sumOf.2.1 18 = .ok (.iload 4, 2) := by decide +kernel
theorem d_Md_sumOf_20 : decode M_Md_sumOf.2.1 20 = .ok (.invokevirtual 336, 3) := by decide +kernel
theorem d_Md_sumOf_23 : decode M_Md_sumOf.2.1 23 = .ok (.iadd, 1) := by decide +kernel
theorem d_Md_sumOf_24 : decode M_Md_sumOf.2.1 24 = .ok (.istore 5, 2) := by decide +kernel
theorem d_Md_sumOf_26 : decode M_Md_sumOf.2.1 26 = .ok (.iinc 6 1, 3) := by decide +kernel
theorem d_Md_sumOf_29 : decode M_Md_sumOf.2.1 29 = .ok (.goto (-23), 3) := by decide +kernel
theorem d_Md_sumOf_32 : decode M_Md_sumOf.2.1 32 = .ok (.iload 5, 2) := by decide +kernel
theorem d_Md_sumOf_34 : decode M_Md_sumOf.2.1 34 = .ok (.ireturn, 1) := by decide +kernel
theorem d_Md_sumAll_0 : decode M_Md_sumAll.2.1 0 = .ok (.iconst 0, 1) := by decide +kernel
theorem d_Md_sumAll_1 : decode M_Md_sumAll.2.1 1 = .ok (.istore 4, 2) := by decide +kernel
theorem d_Md_sumAll_3 : decode M_Md_sumAll.2.1 3 = .ok (.iconst 0, 1) := by decide +kernel
theorem d_Md_sumAll_4 : decode M_Md_sumAll.2.1 4 = .ok (.istore 5, 2) := by decide +kernel
theorem d_Md_sumAll_6 : decode M_Md_sumAll.2.1 6 = .ok (.iload 5, 2) := by decide +kernel
theorem d_Md_sumAll_8 : decode M_Md_sumAll.2.1 8 = .ok (.aload_n 0, 1) := by decide +kernel
theorem d_Md_sumAll_9 : decode M_Md_sumAll.2.1 9 = .ok (.getfield 7, 3) := by decide +kernel
theorem d_Md_sumAll_12 : decode M_Md_sumAll.2.1 12 = .ok (.iconst 0, 1) := by decide +kernel
theorem d_Md_sumAll_13 : decode M_Md_sumAll.2.1 13 = .ok (.iaload, 1) := by decide +kernel
theorem d_Md_sumAll_14 : decode M_Md_sumAll.2.1 14 = .ok (.if_icmp .ge 23, 3) := by decide +kernel
theorem d_Md_sumAll_17 : decode M_Md_sumAll.2.1 17 = .ok (.iload 4, 2) := by decide +kernel
theorem d_Md_sumAll_19 : decode M_Md_sumAll.2.1 19 = .ok (.aload_n 0, 1) := by decide +kernel
theorem d_Md_sumAll_20 : decode M_Md_sumAll.2.1 20 = .ok (.iload 5, 2) := by decide +kernel
theorem d_Md_sumAll_22 : decode M_Md_sumAll.2.1 22 = .ok (.iload_n 1, 1) := by decide +kernel
theorem d_Md_sumAll_23 : decode M_Md_sumAll.2.1 23 = .ok (.iload_n 2, 1) := by decide +kernel
theorem d_Md_sumAll_24 : decode M_Md_sumAll.2.1 24 = .ok (.iload_n 3, 1) := by decide +kernel
theorem d_Md_sumAll_25 : decode M_Md_sumAll.2.1 25 = .ok (.invokevirtual 341, 3) := by decide +kernel
theorem d_Md_sumAll_28 : decode M_Md_sumAll.2.1 28 = .ok (.iadd, 1) := by decide +kernel
theorem d_Md_sumAll_29 : decode M_Md_sumAll.2.1 29 = .ok (.istore 4, 2) := by decide +kernel
theorem d_Md_sumAll_31 : decode M_Md_sumAll.2.1 31 = .ok (.iinc 5 1, 3) := by decide +kernel
theorem d_Md_sumAll_34 : decode M_Md_sumAll.2.1 34 = .ok (.goto (-28), 3) := by decide +kernel
theorem d_Md_sumAll_37 : decode M_Md_sumAll.2.1 37 = .ok (.iload 4, 2) := by decide +kernel
theorem d_Md_sumAll_39 : decode M_Md_sumAll.2.1 39 = .ok (.ireturn, 1) := by decide +kernel
theorem d_Md_sum_0 : decode M_Md_sum.2.1 0 = .ok (.iload_n 1, 1) := by decide +kernel
theorem d_Md_sum_1 : decode M_Md_sum.2.1 1 = .ok (.iconst (-1), 1) := by decide +kernel
theorem d_Md_sum_2 : decode M_Md_sum.2.1 2 = .ok (.if_icmp .eq 11, 3) := by decide +kernel
theorem d_Md_sum_5 : decode M_Md_sum.2.1 5 = .ok (.aload_n 0, 1) := by decide +kernel
theorem d_Md_sum_6 : decode M_Md_sum.2.1 6 = .ok (.iload_n 1, 1) := by decide +kernel
theorem d_Md_sum_7 : decode M_Md_sum.2.1 7 = .ok (.invokevirtual 333, 3) := by decide +kernel
theorem d_Md_sum_10 : decode M_Md_sum.2.1 10 = .ok (.ifCond .eq 20, 3) := by decide +kernel
theorem d_Md_sum_13 : decode M_Md_sum.2.1 13 = .ok (.iload_n 2, 1) := by decide +kernel
theorem d_Md_sum_14 : decode M_Md_sum.2.1 14 = .ok (.invokestatic 97, 3) := by decide +kernel
theorem d_Md_sum_17 : decode M_Md_sum.2.1 17 = .ok (.ifCond .eq 13, 3) := by decide +kernel
theorem d_Md_sum_20 : decode M_Md_sum.2.1 20 = .ok (.iload_n 3, 1) := by decide +kernel
theorem d_Md_sum_21 : decode M_Md_sum.2.1 21 = .ok (.iload_n 2, 1) := by decide +kernel
theorem d_Md_sum_22 : decode M_Md_sum.2.1 22 = .ok (.bipush 29, 2) := by decide +kernel
theorem d_Md_sum_24 : decode M_Md_sum.2.1 24 = .ok (.invokestatic 89, 3) := by decide +kernel
theorem d_Md_sum_27 : decode M_Md_sum.2.1 27 = .ok (.ifCond .ne 7, 3) := by decide +kernel
theorem d_Md_sum_30 : decode M_Md_sum.2.1 30 = .ok (.ldc_w 345, 3) := by decide +kernel
theorem d_Md_sum_33 : decode M_Md_sum.2.1 33 = .ok (.ireturn, 1) := by decide +kernel
theorem d_Md_sum_34 : decode M_Md_sum.2.1 34 = .ok (.iload_n 1, 1) := by decide +kernel
theorem d_Md_sum_35 : decode M_Md_sum.2.1 35 = .ok (.iconst (-1), 1) := by decide +kernel
theorem d_Md_sum_36 : decode M_Md_sum.2.1 36 = .ok (.if_icmp .ne 14, 3) := by decide +kernel
theorem d_Md_sum_39 : decode M_Md_sum.2.1 39 = .ok (.aload_n 0, 1) := by decide +kernel
theorem d_Md_sum_40 : decode M_Md_sum.2.1 40 = .ok (.iload_n 2, 1) := by decide +kernel
theorem d_Md_sum_41 : decode M_Md_sum.2.1 41 = .ok (.iload_n 3, 1) := by decide +kernel
theorem d_Md_sum_42 : decode M_Md_sum.2.1 42 = .ok (.iload 4, 2) := by decide +kernel
theorem d_Md_sum_44 : decode M_Md_sum.2.1 44 = .ok (.invokevirtual 346, 3) := by decide +kernel
theorem d_Md_sum_47 : decode M_Md_sum.2.1 47 = .ok (.goto 12, 3) := by decide +kernel
theorem d_Md_sum_50 : decode M_Md_sum.2.1 50 = .ok (.aload_n 0, 1) := by decide +kernel
theorem d_Md_sum_51 : decode M_Md_sum.2.1 51 = .ok (.iload_n 1, 1) := by decide +kernel
theorem d_Md_sum_52 : decode M_Md_sum.2.1 52 = .ok (.iload_n 2, 1) := by decide +kernel
theorem d_Md_sum_53 : decode M_Md_sum.2.1 53 = .ok (.iload_n 3, 1) := by decide +kernel
theorem d_Md_sum_54 : decode M_Md_sum.2.1 54 = .ok (.iload 4, 2) := by decide +kernel
theorem d_Md_sum_56 : decode M_Md_sum.2.1 56 = .ok (.invokevirtual 341, 3) := by decide +kernel
theorem d_Md_sum_59 : decode M_Md_sum.2.1 59 = .ok (.ireturn, 1) := by decide +kernel
theorem d_Md_ruined_0 : decode M_Md_ruined.2.1 0 = .ok (.iload_n 1, 1) := by decide +kernel
theorem d_Md_ruined_1 : decode M_Md_ruined.2.1 1 = .ok (.iconst (-1), 1) := by decide +kernel
theorem d_Md_ruined_2 : decode M_Md_ruined.2.1 2 = .ok (.if_icmp .ge 5, 3) := by decide +kernel
theorem d_Md_ruined_5 : decode M_Md_ruined.2.1 5 = .ok (.iconst (-1), 1) := by decide +kernel
theorem d_Md_ruined_6 : decode M_Md_ruined.2.1 6 = .ok (.ireturn, 1) := by decide +kernel
theorem d_Md_ruined_7 : decode M_Md_ruined.2.1 7 = .ok (.iconst 0, 1) := by decide +kernel
theorem d_Md_ruined_8 : decode M_Md_ruined.2.1 8 = .ok (.istore_n 2, 1) := by decide +kernel
theorem d_Md_ruined_9 : decode M_Md_ruined.2.1 9 = .ok (.iconst 0, 1) := by decide +kernel
theorem d_Md_ruined_10 : decode M_Md_ruined.2.1 10 = .ok (.istore_n 3, 1) := by decide +kernel
theorem d_Md_ruined_11 : decode M_Md_ruined.2.1 11 = .ok (.iload_n 3, 1) := by decide +kernel
theorem d_Md_ruined_12 : decode M_Md_ruined.2.1 12 = .ok (.aload_n 0, 1) := by decide +kernel
theorem d_Md_ruined_13 : decode M_Md_ruined.2.1 13 = .ok (.getfield 7, 3) := by decide +kernel
theorem d_Md_ruined_16 : decode M_Md_ruined.2.1 16 = .ok (.iconst 0, 1) := by decide +kernel
theorem d_Md_ruined_17 : decode M_Md_ruined.2.1 17 = .ok (.iaload, 1) := by decide +kernel
theorem d_Md_ruined_18 : decode M_Md_ruined.2.1 18 = .ok (.if_icmp .ge 38, 3) := by decide +kernel
theorem d_Md_ruined_21 : decode M_Md_ruined.2.1 21 = .ok (.aload_n 0, 1) := by decide +kernel
theorem d_Md_ruined_22 : decode M_Md_ruined.2.1 22 = .ok (.iload_n 3, 1) := by decide +kernel
theorem d_Md_ruined_23 : decode M_Md_ruined.2.1 23 = .ok (.iconst 0, 1) := by decide +kernel
theorem d_Md_ruined_24 : decode M_Md_ruined.2.1 24 = .ok (.bipush 29, 2) := by decide +kernel
theorem d_Md_ruined_26 : decode M_Md_ruined.2.1 26 = .ok (.iconst 0, 1) := by decide +kernel
theorem d_Md_ruined_27 : decode M_Md_ruined.2.1 27 = .ok (.invokevirtual 341, 3) := by decide +kernel
theorem d_Md_ruined_30 : decode M_Md_ruined.2.1 30 = .ok (.aload_n 0, 1) := by decide +kernel
theorem d_Md_ruined_31 : decode M_Md_ruined.2.1 31 = .ok (.getfield 7, 3) := by decide +kernel
theorem d_Md_ruined_34 : decode M_Md_ruined.2.1 34 = .ok (.iconst 1, 1) := by decide +kernel
theorem d_Md_ruined_35 : decode M_Md_ruined.2.1 35 = .ok (.iaload, 1) := by decide +kernel
theorem d_Md_ruined_36 : decode M_Md_ruined.2.1 36 = .ok (.ineg, 1) := by decide +kernel
theorem d_Md_ruined_37 : decode M_Md_ruined.2.1 37 = .ok (.if_icmp .ge 13, 3) := by decide +kernel
theorem d_Md_ruined_40 : decode M_Md_ruined.2.1 40 = .ok (.iload_n 2, 1) := by decide +kernel
theorem d_Md_ruined_41 : decode M_Md_ruined.2.1 41 = .ok (.iload_n 1, 1) := by decide +kernel
theorem d_Md_ruined_42 : decode M_Md_ruined.2.1 42 = .ok (.if_icmp .ne 5, 3) := by decide +kernel
theorem d_Md_ruined_45 : decode M_Md_ruined.2.1 45 = .ok (.iload_n 3, 1) := by decide +kernel
theorem d_Md_ruined_46 : decode M_Md_ruined.2.1 46 = .ok (.ireturn, 1) := by decide +kernel
theorem d_Md_ruined_47 : decode M_Md_ruined.2.1 47 = .ok (.iinc 2 1, 3) := by decide +kernel
theorem d_Md_ruined_50 : decode M_Md_ruined.2.1 50 = .ok (.iinc 3 1, 3) := by decide +kernel
theorem d_Md_ruined_53 : decode M_Md_ruined.2.1 53 = .ok (.goto (-42), 3) := by decide +kernel
theorem d_Md_ruined_56 : decode M_Md_ruined.2.1 56 = .ok (.iload_n 1, 1) := by decide +kernel
theorem d_Md_ruined_57 : decode M_Md_ruined.2.1 57 = .ok (.iconst (-1), 1) := by decide +kernel
theorem d_Md_ruined_58 : decode M_Md_ruined.2.1 58 = .ok (.if_icmp .ne 7, 3) := by decide +kernel
theorem d_Md_ruined_61 : decode M_Md_ruined.2.1 61 = .ok (.iload_n 2, 1) := by decide +kernel
theorem d_Md_ruined_62 : decode M_Md_ruined.2.1 62 = .ok (.goto 4, 3) := by decide +kernel
theorem d_Md_ruined_65 : decode M_Md_ruined.2.1 65 = .ok (.iconst (-1), 1) := by decide +kernel
theorem d_Md_ruined_66 : decode M_Md_ruined.2.1 66 = .ok (.ireturn, 1) := by decide +kernel
theorem d_Md_led_0 : decode M_Md_led.2.1 0 = .ok (.aload_n 0, 1) := by decide +kernel
theorem d_Md_led_1 : decode M_Md_led.2.1 1 = .ok (.iload_n 1, 1) := by decide +kernel
theorem d_Md_led_2 : decode M_Md_led.2.1 2 = .ok (.invokevirtual 333, 3) := by decide +kernel
theorem d_Md_led_5 : decode M_Md_led.2.1 5 = .ok (.ifCond .eq 12, 3) := by decide +kernel
theorem d_Md_led_8 : decode M_Md_led.2.1 8 = .ok (.iload_n 2, 1) := by decide +kernel
theorem d_Md_led_9 : decode M_Md_led.2.1 9 = .ok (.iconst 0, 1) := by decide +kernel
theorem d_Md_led_10 : decode M_Md_led.2.1 10 = .ok (.iconst 1, 1) := by decide +kernel
theorem d_Md_led_11 : decode M_Md_led.2.1 11 = .ok (.invokestatic 89, 3) := by decide +kernel
theorem d_Md_led_14 : decode M_Md_led.2.1 14 = .ok (.ifCond .ne 5, 3) := by decide +kernel
theorem d_Md_led_17 : decode M_Md_led.2.1 17 = .ok (.iconst (-1), 1) := by decide +kernel
theorem d_Md_led_18 : decode M_Md_led.2.1 18 = .ok (.ireturn, 1) := by decide +kernel
theorem d_Md_led_19 : decode M_Md_led.2.1 19 = .ok (.iconst (-1), 1) := by decide +kernel
theorem d_Md_led_20 : decode M_Md_led.2.1 20 = .ok (.istore_n 3, 1) := by decide +kernel
theorem d_Md_led_21 : decode M_Md_led.2.1 21 = .ok (.iconst 0, 1) := by decide +kernel
theorem d_Md_led_22 : decode M_Md_led.2.1 22 = .ok (.istore 4, 2) := by decide +kernel
theorem d_Md_led_24 : decode M_Md_led.2.1 24 = .ok (.iconst 0, 1) := by decide +kernel
theorem d_Md_led_25 : decode M_Md_led.2.1 25 = .ok (.istore 5, 2) := by decide +kernel
theorem d_Md_led_27 : decode M_Md_led.2.1 27 = .ok (.iload 5, 2) := by decide +kernel
theorem d_Md_led_29 : decode M_Md_led.2.1 29 = .ok (.bipush 30, 2) := by decide +kernel
theorem d_Md_led_31 : decode M_Md_led.2.1 31 = .ok (.if_icmp .ge 81, 3) := by decide +kernel
theorem d_Md_led_34 : decode M_Md_led.2.1 34 = .ok (.aload_n 0, 1) := by decide +kernel
theorem d_Md_led_35 : decode M_Md_led.2.1 35 = .ok (.iload 5, 2) := by decide +kernel
theorem d_Md_led_37 : decode M_Md_led.2.1 37 = .ok (.aload_n 0, 1) := by decide +kernel
theorem d_Md_led_38 : decode M_Md_led.2.1 38 = .ok (.iload_n 1, 1) := by decide +kernel
theorem d_Md_led_39 : decode M_Md_led.2.1 39 = .ok (.invokevirtual 304, 3) := by decide +kernel
theorem d_Md_led_42 : decode M_Md_led.2.1 42 = .ok (.invokevirtual 291, 3) := by decide +kernel
theorem d_Md_led_45 : decode M_Md_led.2.1 45 = .ok (.istore 6, 2) := by decide +kernel
theorem d_Md_led_47 : decode M_Md_led.2.1 47 = .ok (.aload_n 0, 1) := by decide +kernel
theorem d_Md_led_48 : decode M_Md_led.2.1 48 = .ok (.iload_n 1, 1) := by decide +kernel
theorem d_Md_led_49 : decode M_Md_led.2.1 49 = .ok (.iload 5, 2) := by decide +kernel
theorem d_Md_led_51 : decode M_Md_led.2.1 51 = .ok (.aload_n 0, 1) := by decide +kernel
theorem d_Md_led_52 : decode M_Md_led.2.1 52 = .ok (.getfield 7, 3) := by decide +kernel
theorem d_Md_led_55 : decode M_Md_led.2.1 55 = .ok (.bipush 10, 2) := by decide +kernel
theorem d_Md_led_57 : decode M_Md_led.2.1 57 = .ok (.iload 5, 2) := by decide +kernel
theorem d_Md_led_59 : decode M_Md_led.2.1 59 = .ok (.iadd, 1) := by decide +kernel
theorem d_Md_led_60 : decode M_Md_led.2.1 60 = .ok (.iaload, 1) := by decide +kernel
theorem d_Md_led_61 : decode M_Md_led.2.1 61 = .ok (.iconst 1, 1) := by decide +kernel
theorem d_Md_led_62 : decode M_Md_led.2.1 62 = .ok (.iload 6, 2) := by decide +kernel
theorem d_Md_led_64 : decode M_Md_led.2.1 64 = .ok (.isub, 1) := by decide +kernel
theorem d_Md_led_65 : decode M_Md_led.2.1 65 = .ok (.iconst 0, 1) := by decide +kernel
theorem d_Md_led_66 : decode M_Md_led.2.1 66 = .ok (.invokevirtual 329, 3) := by decide +kernel
theorem d_Md_led_69 : decode M_Md_led.2.1 69 = .ok (.aload_n 0, 1) := by decide +kernel
theorem d_Md_led_70 : decode M_Md_led.2.1 70 = .ok (.iload_n 1, 1) := by decide +kernel
theorem d_Md_led_71 : decode M_Md_led.2.1 71 = .ok (.iload 5, 2) := by decide +kernel
theorem d_Md_led_73 : decode M_Md_led.2.1 73 = .ok (.aload_n 0, 1) := by decide +kernel
theorem d_Md_led_74 : decode M_Md_led.2.1 74 = .ok (.getfield 7, 3) := by decide +kernel
theorem d_Md_led_77 : decode M_Md_led.2.1 77 = .ok (.bipush 10, 2) := by decide +kernel
theorem d_Md_led_79 : decode M_Md_led.2.1 79 = .ok (.iload 5, 2) := by decide +kernel
theorem d_Md_led_81 : decode M_Md_led.2.1 81 = .ok (.iadd, 1) := by decide +kernel
theorem d_Md_led_82 : decode M_Md_led.2.1 82 = .ok (.iaload, 1) := by decide +kernel
theorem d_Md_led_83 : decode M_Md_led.2.1 83 = .ok (.iload 6, 2) := by decide +kernel
theorem d_Md_led_85 : decode M_Md_led.2.1 85 = .ok (.iconst 0, 1) := by decide +kernel
theorem d_Md_led_86 : decode M_Md_led.2.1 86 = .ok (.invokevirtual 329, 3) := by decide +kernel
theorem d_Md_led_89 : decode M_Md_led.2.1 89 = .ok (.isub, 1) := by decide +kernel
theorem d_Md_led_90 : decode M_Md_led.2.1 90 = .ok (.istore 7, 2) := by decide +kernel
theorem d_Md_led_92 : decode M_Md_led.2.1 92 = .ok (.iload 7, 2) := by decide +kernel
theorem d_Md_led_94 : decode M_Md_led.2.1 94 = .ok (.iload 4, 2) := by decide +kernel
theorem d_Md_led_96 : decode M_Md_led.2.1 96 = .ok (.if_icmp .le 10, 3) := by decide +kernel
theorem d_Md_led_99 : decode M_Md_led.2.1 99 = .ok (.iload 7, 2) := by decide +kernel
theorem d_Md_led_101 : decode M_Md_led.2.1 101 = .ok (.istore 4, 2) := by decide +kernel
theorem d_Md_led_103 : decode M_Md_led.2.1 103 = .ok (.iload 5, 2) := by decide +kernel
theorem d_Md_led_105 : decode M_Md_led.2.1 105 = .ok (.istore_n 3, 1) := by decide +kernel
theorem d_Md_led_106 : decode M_Md_led.2.1 106 = .ok (.iinc 5 1, 3) := by decide +kernel
theorem d_Md_led_109 : decode M_Md_led.2.1 109 = .ok (.goto (-82), 3) := by decide +kernel
theorem d_Md_led_112 : decode M_Md_led.2.1 112 = .ok (.iload_n 3, 1) := by decide +kernel
theorem d_Md_led_113 : decode M_Md_led.2.1 113 = .ok (.iconst (-1), 1) := by decide +kernel
theorem d_Md_led_114 : decode M_Md_led.2.1 114 = .ok (.if_icmp .ne 7, 3) := by decide +kernel
theorem d_Md_led_117 : decode M_Md_led.2.1 117 = .ok (.iconst (-1), 1) := by decide +kernel
theorem d_Md_led_118 : decode M_Md_led.2.1 118 = .ok (.goto 13, 3) := by decide +kernel
theorem d_Md_led_121 : decode M_Md_led.2.1 121 = .ok (.iload_n 2, 1) := by decide +kernel
theorem d_Md_led_122 : decode M_Md_led.2.1 122 = .ok (.ifCond .ne 7, 3) := by decide +kernel
theorem d_Md_led_125 : decode M_Md_led.2.1 125 = .ok (.iload_n 3, 1) := by decide +kernel
theorem d_Md_led_126 : decode M_Md_led.2.1 126 = .ok (.goto 5, 3) := by decide +kernel
theorem d_Md_led_129 : decode M_Md_led.2.1 129 = .ok (.iload 4, 2) := by decide +kernel
theorem d_Md_led_131 : decode M_Md_led.2.1 131 = .ok (.ireturn, 1) := by decide +kernel
theorem d_Md_isAlike_0 : decode M_Md_isAlike.2.1 0 = .ok (.aload_n 0, 1) := by decide +kernel
theorem d_Md_isAlike_1 : decode M_Md_isAlike.2.1 1 = .ok (.iload_n 1, 1) := by decide +kernel
theorem d_Md_isAlike_2 : decode M_Md_isAlike.2.1 2 = .ok (.iload_n 2, 1) := by decide +kernel
theorem d_Md_isAlike_3 : decode M_Md_isAlike.2.1 3 = .ok (.invokevirtual 291, 3) := by decide +kernel
theorem d_Md_isAlike_6 : decode M_Md_isAlike.2.1 6 = .ok (.istore 4, 2) := by decide +kernel
theorem d_Md_isAlike_8 : decode M_Md_isAlike.2.1 8 = .ok (.iconst 1, 1) := by decide +kernel
theorem d_Md_isAlike_9 : decode M_Md_isAlike.2.1 9 = .ok (.istore 5, 2) := by decide +kernel
theorem d_Md_isAlike_11 : decode M_Md_isAlike.2.1 11 = .ok (.iconst 0, 1) := by decide +kernel
theorem d_Md_isAlike_12 : decode M_Md_isAlike.2.1 12 = .ok (.istore 6, 2) := by decide +kernel
theorem d_Md_isAlike_14 : decode M_Md_isAlike.2.1 14 = .ok (.iload 6, 2) := by decide +kernel
theorem d_Md_isAlike_16 : decode M_Md_isAlike.2.1 16 = .ok (.aload_n 0, 1) := by decide +kernel
theorem d_Md_isAlike_17 : decode M_Md_isAlike.2.1 17 = .ok (.getfield 7, 3) := by decide +kernel
theorem d_Md_isAlike_20 : decode M_Md_isAlike.2.1 20 = .ok (.iconst 0, 1) := by decide +kernel
theorem d_Md_isAlike_21 : decode M_Md_isAlike.2.1 21 = .ok (.iaload, 1) := by decide +kernel
theorem d_Md_isAlike_22 : decode M_Md_isAlike.2.1 22 = .ok (.if_icmp .ge 70, 3) := by decide +kernel
theorem d_Md_isAlike_25 : decode M_Md_isAlike.2.1 25 = .ok (.iload 5, 2) := by decide +kernel
theorem d_Md_isAlike_27 : decode M_Md_isAlike.2.1 27 = .ok (.ifCond .eq 65, 3) := by decide +kernel
theorem d_Md_isAlike_30 : decode M_Md_isAlike.2.1 30 = .ok (.aload_n 0, 1) := by decide +kernel
theorem d_Md_isAlike_31 : decode M_Md_isAlike.2.1 31 = .ok (.iload 6, 2) := by decide +kernel
theorem d_Md_isAlike_33 : decode M_Md_isAlike.2.1 33 = .ok (.invokevirtual 304, 3) := by decide +kernel
theorem d_Md_isAlike_36 : decode M_Md_isAlike.2.1 36 = .ok (.iload_n 2, 1) := by decide +kernel
theorem d_Md_isAlike_37 : decode M_Md_isAlike.2.1 37 = .ok (.if_icmp .ne 49, 3) := by decide +kernel
theorem d_Md_isAlike_40 : decode M_Md_isAlike.2.1 40 = .ok (.aload_n 0, 1) := by decide +kernel
theorem d_Md_isAlike_41 : decode M_Md_isAlike.2.1 41 = .ok (.iload 6, 2) := by decide +kernel
theorem d_Md_isAlike_43 : decode M_Md_isAlike.2.1 43 = .ok (.iload_n 1, 1) := by decide +kernel
theorem d_Md_isAlike_44 : decode M_Md_isAlike.2.1 44 = .ok (.aload_n 0, 1) := by decide +kernel
theorem d_Md_isAlike_45 : decode M_Md_isAlike.2.1 45 = .ok (.getfield 7, 3) := by decide +kernel
theorem d_Md_isAlike_48 : decode M_Md_isAlike.2.1 48 = .ok (.bipush 10, 2) := by decide +kernel
theorem d_Md_isAlike_50 : decode M_Md_isAlike.2.1 50 = .ok (.iload_n 1, 1) := by decide +kernel
theorem d_Md_isAlike_51 : decode M_Md_isAlike.2.1 51 = .ok (.iadd, 1) := by decide +kernel
theorem d_Md_isAlike_52 : decode M_Md_isAlike.2.1 52 = .ok (.iaload, 1) := by decide +kernel
theorem d_Md_isAlike_53 : decode M_Md_isAlike.2.1 53 = .ok (.iload 4, 2) := by decide +kernel
theorem d_Md_isAlike_55 : decode M_Md_isAlike.2.1 55 = .ok (.invokevirtual 311, 3) := by decide +kernel
theorem d_Md_isAlike_58 : decode M_Md_isAlike.2.1 58 = .ok (.istore 7, 2) := by decide +kernel
theorem d_Md_isAlike_60 : decode M_Md_isAlike.2.1 60 = .ok (.aload_n 0, 1) := by decide +kernel
theorem d_Md_isAlike_61 : decode M_Md_isAlike.2.1 61 = .ok (.iload 6, 2) := by decide +kernel
theorem d_Md_isAlike_63 : decode M_Md_isAlike.2.1 63 = .ok (.iload_n 1, 1) := by decide +kernel
theorem d_Md_isAlike_64 : decode M_Md_isAlike.2.1 64 = .ok (.iload_n 3, 1) := by decide +kernel
theorem d_Md_isAlike_65 : decode M_Md_isAlike.2.1 65 = .ok (.iload 4, 2) := by decide +kernel
theorem d_Md_isAlike_67 : decode M_Md_isAlike.2.1 67 = .ok (.invokevirtual 311, 3) := by decide +kernel
theorem d_Md_isAlike_70 : decode M_Md_isAlike.2.1 70 = .ok (.istore 8, 2) := by decide +kernel
theorem d_Md_isAlike_72 : decode M_Md_isAlike.2.1 72 = .ok (.iload 7, 2) := by decide +kernel
theorem d_Md_isAlike_74 : decode M_Md_isAlike.2.1 74 = .ok (.iload 8, 2) := by decide +kernel
theorem d_Md_isAlike_76 : decode M_Md_isAlike.2.1 76 = .ok (.if_icmp .ne 7, 3) := by decide +kernel
theorem d_Md_isAlike_79 : decode M_Md_isAlike.2.1 79 = .ok (.iconst 1, 1) := by decide +kernel
theorem d_Md_isAlike_80 : decode M_Md_isAlike.2.1 80 = .ok (.goto 4, 3) := by decide +kernel
theorem d_Md_isAlike_83 : decode M_Md_isAlike.2.1 83 = .ok (.iconst 0, 1) := by decide +kernel
theorem d_Md_isAlike_84 : decode M_Md_isAlike.2.1 84 = .ok (.istore 5, 2) := by decide +kernel
theorem d_Md_isAlike_86 : decode M_Md_isAlike.2.1 86 = .ok (.iinc 6 1, 3) := by decide +kernel
theorem d_Md_isAlike_89 : decode M_Md_isAlike.2.1 89 = .ok (.goto (-75), 3) := by decide +kernel
theorem d_Md_isAlike_92 : decode M_Md_isAlike.2.1 92 = .ok (.iload 5, 2) := by decide +kernel
theorem d_Md_isAlike_94 : decode M_Md_isAlike.2.1 94 = .ok (.ireturn, 1) := by decide +kernel
theorem d_Md_odds_0 : decode M_Md_odds.2.1 0 = .ok (.iload_n 1, 1) := by decide +kernel
theorem d_Md_odds_1 : decode M_Md_odds.2.1 1 = .ok (.invokestatic 97, 3) := by decide +kernel
theorem d_Md_odds_4 : decode M_Md_odds.2.1 4 = .ok (.ifCond .eq 19, 3) := by decide +kernel
theorem d_Md_odds_7 : decode M_Md_odds.2.1 7 = .ok (.iload_n 2, 1) := by decide +kernel
theorem d_Md_odds_8 : decode M_Md_odds.2.1 8 = .ok (.invokestatic 93, 3) := by decide +kernel
theorem d_Md_odds_11 : decode M_Md_odds.2.1 11 = .ok (.ifCond .eq 12, 3) := by decide +kernel
theorem d_Md_odds_14 : decode M_Md_odds.2.1 14 = .ok (.iload_n 3, 1) := by decide +kernel
theorem d_Md_odds_15 : decode M_Md_odds.2.1 15 = .ok (.iconst 0, 1) := by decide +kernel
theorem d_Md_odds_16 : decode M_Md_odds.2.1 16 = .ok (.iconst 1, 1) := by decide +kernel
theorem d_Md_odds_17 : decode M_Md_odds.2.1 17 = .ok (.invokestatic 89, 3) := by decide +kernel
theorem d_Md_odds_20 : decode M_Md_odds.2.1 20 = .ok (.ifCond .ne 5, 3) := by decide +kernel
theorem d_Md_odds_23 : decode M_Md_odds.2.1 23 = .ok (.iconst (-1), 1) := by decide +kernel
theorem d_Md_odds_24 : decode M_Md_odds.2.1 24 = .ok (.ireturn, 1) := by decide +kernel
theorem d_Md_odds_25 : decode M_Md_odds.2.1 25 = .ok (.iconst 0, 1) := by decide +kernel
theorem d_Md_odds_26 : decode M_Md_odds.2.1 26 = .ok (.istore 4, 2) := by decide +kernel
theorem d_Md_odds_28 : decode M_Md_odds.2.1 28 = .ok (.iconst 0, 1) := by decide +kernel
theorem d_Md_odds_29 : decode M_Md_odds.2.1 29 = .ok (.istore 5, 2) := by decide +kernel
theorem d_Md_odds_31 : decode M_Md_odds.2.1 31 = .ok (.iconst 0, 1) := by decide +kernel
theorem d_Md_odds_32 : decode M_Md_odds.2.1 32 = .ok (.istore 6, 2) := by decide +kernel
theorem d_Md_odds_34 : decode M_Md_odds.2.1 34 = .ok (.iload 6, 2) := by decide +kernel
theorem d_Md_odds_36 : decode M_Md_odds.2.1 36 = .ok (.bipush 10, 2) := by decide +kernel
theorem d_Md_odds_38 : decode M_Md_odds.2.1 38 = .ok (.if_icmp .ge 62, 3) := by decide +kernel
theorem d_Md_odds_41 : decode M_Md_odds.2.1 41 = .ok (.aload_n 0, 1) := by decide +kernel
theorem d_Md_odds_42 : decode M_Md_odds.2.1 42 = .ok (.iload_n 1, 1) := by decide +kernel
theorem d_Md_odds_43 : decode M_Md_odds.2.1 43 = .ok (.iload_n 2, 1) := by decide +kernel
theorem d_Md_odds_44 : decode M_Md_odds.2.1 44 = .ok (.iload 6, 2) := by decide +kernel
theorem d_Md_odds_46 : decode M_Md_odds.2.1 46 = .ok (.invokevirtual 349, 3) := by decide +kernel
theorem d_Md_odds_49 : decode M_Md_odds.2.1 49 = .ok (.ifCond .eq 45, 3) := by decide +kernel
theorem d_Md_odds_52 : decode M_Md_odds.2.1 52 = .ok (.iload 4, 2) := by decide +kernel
theorem d_Md_odds_54 : decode M_Md_odds.2.1 54 = .ok (.aload_n 0, 1) := by decide +kernel
theorem d_Md_odds_55 : decode M_Md_odds.2.1 55 = .ok (.getfield 7, 3) := by decide +kernel
theorem d_Md_odds_58 : decode M_Md_odds.2.1 58 = .ok (.sipush 160, 3) := by decide +kernel
theorem d_Md_odds_61 : decode M_Md_odds.2.1 61 = .ok (.iload 6, 2) := by decide +kernel
theorem d_Md_odds_63 : decode M_Md_odds.2.1 63 = .ok (.iadd, 1) := by decide +kernel
theorem d_Md_odds_64 : decode M_Md_odds.2.1 64 = .ok (.iaload, 1) := by decide +kernel
theorem d_Md_odds_65 : decode M_Md_odds.2.1 65 = .ok (.iadd, 1) := by decide +kernel
theorem d_Md_odds_66 : decode M_Md_odds.2.1 66 = .ok (.istore 4, 2) := by decide +kernel
theorem d_Md_odds_68 : decode M_Md_odds.2.1 68 = .ok (.iload 5, 2) := by decide +kernel
theorem d_Md_odds_70 : decode M_Md_odds.2.1 70 = .ok (.iload 6, 2) := by decide +kernel
theorem d_Md_odds_72 : decode M_Md_odds.2.1 72 = .ok (.iconst 5, 1) := by decide +kernel
theorem d_Md_odds_73 : decode M_Md_odds.2.1 73 = .ok (.if_icmp .lt 17, 3) := by decide +kernel
theorem d_Md_odds_76 : decode M_Md_odds.2.1 76 = .ok (.aload_n 0, 1) := by decide +kernel
theorem d_Md_odds_77 : decode M_Md_odds.2.1 77 = .ok (.getfield 7, 3) := by decide +kernel
theorem d_Md_odds_80 : decode M_Md_odds.2.1 80 = .ok (.sipush 160, 3) := by decide +kernel
theorem d_Md_odds_83 : decode M_Md_odds.2.1 83 = .ok (.iload 6, 2) := by decide +kernel
theorem d_Md_odds_85 : decode M_Md_odds.2.1 85 = .ok (.iadd, 1) := by decide +kernel
theorem d_Md_odds_86 : decode M_Md_odds.2.1 86 = .ok (.iaload, 1) := by decide +kernel
theorem d_Md_odds_87 : decode M_Md_odds.2.1 87 = .ok (.goto 4, 3) := by decide +kernel
theorem d_Md_odds_90 : decode M_Md_odds.2.1 90 = .ok (.iconst 0, 1) := by decide +kernel
theorem d_Md_odds_91 : decode M_Md_odds.2.1 91 = .ok (.iadd, 1) := by decide +kernel
theorem d_Md_odds_92 : decode M_Md_odds.2.1 92 = .ok (.istore 5, 2) := by decide +kernel
theorem d_Md_odds_94 : decode M_Md_odds.2.1 94 = .ok (.iinc 6 1, 3) := by decide +kernel
theorem d_Md_odds_97 : decode M_Md_odds.2.1 97 = .ok (.goto (-63), 3) := by decide +kernel
theorem d_Md_odds_100 : decode M_Md_odds.2.1 100 = .ok (.iload 4, 2) := by decide +kernel
theorem d_Md_odds_102 : decode M_Md_odds.2.1 102 = .ok (.ifCond .ne 5, 3) := by decide +kernel
theorem d_Md_odds_105 : decode M_Md_odds.2.1 105 = .ok (.iconst (-1), 1) := by decide +kernel
theorem d_Md_odds_106 : decode M_Md_odds.2.1 106 = .ok (.ireturn, 1) := by decide +kernel
theorem d_Md_odds_107 : decode M_Md_odds.2.1 107 = .ok (.iload 4, 2) := by decide +kernel
theorem d_Md_odds_109 : decode M_Md_odds.2.1 109 = .ok (.istore 6, 2) := by decide +kernel
theorem d_Md_odds_111 : decode M_Md_odds.2.1 111 = .ok (.iload 5, 2) := by decide +kernel
theorem d_Md_odds_113 : decode M_Md_odds.2.1 113 = .ok (.istore 7, 2) := by decide +kernel
theorem d_Md_odds_115 : decode M_Md_odds.2.1 115 = .ok (.iload 7, 2) := by decide +kernel
theorem d_Md_odds_117 : decode M_Md_odds.2.1 117 = .ok (.ifCond .eq 21, 3) := by decide +kernel
theorem d_Md_odds_120 : decode M_Md_odds.2.1 120 = .ok (.iload 6, 2) := by decide +kernel
theorem d_Md_odds_122 : decode M_Md_odds.2.1 122 = .ok (.iload 7, 2) := by decide +kernel
theorem d_Md_odds_124 : decode M_Md_odds.2.1 124 = .ok (.irem, 1) := by decide +kernel
theorem d_Md_odds_125 : decode M_Md_odds.2.1 125 = .ok (.istore 8, 2) := by decide +kernel
theorem d_Md_odds_127 : decode M_Md_odds.2.1 127 = .ok (.iload 7, 2) := by decide +kernel
theorem d_Md_odds_129 : decode M_Md_odds.2.1 129 = .ok (.istore 6, 2) := by decide +kernel
theorem d_Md_odds_131 : decode M_Md_odds.2.1 131 = .ok (.iload 8, 2) := by decide +kernel
theorem d_Md_odds_133 : decode M_Md_odds.2.1 133 = .ok (.istore 7, 2) := by decide +kernel
theorem d_Md_odds_135 : decode M_Md_odds.2.1 135 = .ok (.goto (-20), 3) := by decide +kernel
theorem d_Md_odds_138 : decode M_Md_odds.2.1 138 = .ok (.iload_n 3, 1) := by decide +kernel
theorem d_Md_odds_139 : decode M_Md_odds.2.1 139 = .ok (.ifCond .ne 11, 3) := by decide +kernel
theorem d_Md_odds_142 : decode M_Md_odds.2.1 142 = .ok (.iload 5, 2) := by decide +kernel
theorem d_Md_odds_144 : decode M_Md_odds.2.1 144 = .ok (.iload 6, 2) := by decide +kernel
theorem d_Md_odds_146 : decode M_Md_odds.2.1 146 = .ok (.idiv, 1) := by decide +kernel
theorem d_Md_odds_147 : decode M_Md_odds.2.1 147 = .ok (.goto 8, 3) := by decide +kernel
theorem d_Md_odds_150 : decode M_Md_odds.2.1 150 = .ok (.iload 4, 2) := by decide +kernel
theorem d_Md_odds_152 : decode M_Md_odds.2.1 152 = .ok (.iload 6, 2) := by decide +kernel
theorem d_Md_odds_154 : decode M_Md_odds.2.1 154 = .ok (.idiv, 1) := by decide +kernel
theorem d_Md_odds_155 : decode M_Md_odds.2.1 155 = .ok (.ireturn, 1) := by decide +kernel
theorem d_Md_gainBy_0 : decode M_Md_gainBy.2.1 0 = .ok (.iconst 0, 1) := by decide +kernel
theorem d_Md_gainBy_1 : decode M_Md_gainBy.2.1 1 = .ok (.istore 4, 2) := by decide +kernel
theorem d_Md_gainBy_3 : decode M_Md_gainBy.2.1 3 = .ok (.iconst 0, 1) := by decide +kernel
theorem d_Md_gainBy_4 : decode M_Md_gainBy.2.1 4 = .ok (.istore 5, 2) := by decide +kernel
theorem d_Md_gainBy_6 : decode M_Md_gainBy.2.1 6 = .ok (.iload 5, 2) := by decide +kernel
theorem d_Md_gainBy_8 : decode M_Md_gainBy.2.1 8 = .ok (.aload_n 0, 1) := by decide +kernel
theorem d_Md_gainBy_9 : decode M_Md_gainBy.2.1 9 = .ok (.getfield 7, 3) := by decide +kernel
theorem d_Md_gainBy_12 : decode M_Md_gainBy.2.1 12 = .ok (.iconst 0, 1) := by decide +kernel
theorem d_Md_gainBy_13 : decode M_Md_gainBy.2.1 13 = .ok (.iaload, 1) := by decide +kernel
theorem d_Md_gainBy_14 : decode M_Md_gainBy.2.1 14 = .ok (.if_icmp .ge 46, 3) := by decide +kernel
theorem d_Md_gainBy_17 : decode M_Md_gainBy.2.1 17 = .ok (.iload 4, 2) := by decide +kernel
theorem d_Md_gainBy_19 : decode M_Md_gainBy.2.1 19 = .ok (.aload_n 0, 1) := by decide +kernel
theorem d_Md_gainBy_20 : decode M_Md_gainBy.2.1 20 = .ok (.iload 5, 2) := by decide +kernel
theorem d_Md_gainBy_22 : decode M_Md_gainBy.2.1 22 = .ok (.invokevirtual 304, 3) := by decide +kernel
theorem d_Md_gainBy_25 : decode M_Md_gainBy.2.1 25 = .ok (.iload_n 1, 1) := by decide +kernel
theorem d_Md_gainBy_26 : decode M_Md_gainBy.2.1 26 = .ok (.if_icmp .ne 24, 3) := by decide +kernel
theorem d_Md_gainBy_29 : decode M_Md_gainBy.2.1 29 = .ok (.aload_n 0, 1) := by decide +kernel
theorem d_Md_gainBy_30 : decode M_Md_gainBy.2.1 30 = .ok (.iload 5, 2) := by decide +kernel
theorem d_Md_gainBy_32 : decode M_Md_gainBy.2.1 32 = .ok (.iload_n 2, 1) := by decide +kernel
theorem d_Md_gainBy_33 : decode M_Md_gainBy.2.1 33 = .ok (.aload_n 0, 1) := by decide +kernel
theorem d_Md_gainBy_34 : decode M_Md_gainBy.2.1 34 = .ok (.getfield 7, 3) := by decide +kernel
theorem d_Md_gainBy_37 : decode M_Md_gainBy.2.1 37 = .ok (.bipush 10, 2) := by decide +kernel
theorem d_Md_gainBy_39 : decode M_Md_gainBy.2.1 39 = .ok (.iload_n 2, 1) := by decide +kernel
theorem d_Md_gainBy_40 : decode M_Md_gainBy.2.1 40 = .ok (.iadd, 1) := by decide +kernel
theorem d_Md_gainBy_41 : decode M_Md_gainBy.2.1 41 = .ok (.iaload, 1) := by decide +kernel
theorem d_Md_gainBy_42 : decode M_Md_gainBy.2.1 42 = .ok (.iload_n 3, 1) := by decide +kernel
theorem d_Md_gainBy_43 : decode M_Md_gainBy.2.1 43 = .ok (.iconst 0, 1) := by decide +kernel
theorem d_Md_gainBy_44 : decode M_Md_gainBy.2.1 44 = .ok (.invokevirtual 329, 3) := by decide +kernel
theorem d_Md_gainBy_47 : decode M_Md_gainBy.2.1 47 = .ok (.goto 4, 3) := by decide +kernel
theorem d_Md_gainBy_50 : decode M_Md_gainBy.2.1 50 = .ok (.iconst 0, 1) := by decide +kernel
theorem d_Md_gainBy_51 : decode M_Md_gainBy.2.1 51 = .ok (.iadd, 1) := by decide +kernel
theorem d_Md_gainBy_52 : decode M_Md_gainBy.2.1 52 = .ok (.istore 4, 2) := by decide +kernel
theorem d_Md_gainBy_54 : decode M_Md_gainBy.2.1 54 = .ok (.iinc 5 1, 3) := by decide +kernel
theorem d_Md_gainBy_57 : decode M_Md_gainBy.2.1 57 = .ok (.goto (-51), 3) := by decide +kernel
theorem d_Md_gainBy_60 : decode M_Md_gainBy.2.1 60 = .ok (.iload 4, 2) := by decide +kernel
theorem d_Md_gainBy_62 : decode M_Md_gainBy.2.1 62 = .ok (.ireturn, 1) := by decide +kernel
-- Md_says
def f_Md_says (a1 : Int32) (V : xV) (L : xL) : Option (Int64 × xL) := (if xI ((6 * (V 66 3)) + a1) 24 = true then (Option.bind (f_Md_saysOf (V 70 ((6 * (V 66 3)) + a1).toNatClampNeg) V L) fun p2 => some (p2.1, p2.2)) else none)
theorem t_Md_says (a1 : Int32) (V : xV) (L : xL) (res : Int64 × xL) (h : f_Md_says a1 V L = some res) : xRuns (4) M_Md_says [.ref 65, .int a1] (SH, V, L) (fun o h' => o = some (.long res.1) ∧ h' = (SH, V, res.2)) := by
  refine xRuns_of (by decide) (Nat.le_of_ble_eq_true rfl) ?_
  unfold f_Md_says at h
  show X M_Md_says (xRm (4) M_Md_says) (xZ M_Md_says (fun o h' => o = some (.long res.1) ∧ h' = (SH, V, res.2))) SH V L 0 0 0 [(0, .ref 65), (1, .int a1)] []
  refine x_aload_n 0 d_Md_says_0 rfl rfl ?_
  refine x_aload_n 0 d_Md_says_1 rfl rfl ?_
  refine x_getP (q := 70) f_Md_30 sh_65 rfl d_Md_says_2 ?_
  refine x_bipush 6 d_Md_says_5 (by decide) ?_
  refine x_aload_n 0 d_Md_says_7 rfl rfl ?_
  refine x_getP (q := 66) f_Md_7 sh_65 rfl d_Md_says_8 ?_
  refine x_iconst 3 d_Md_says_11 (by decide) ?_
  refine x_ialoadC 3 sh_66 (by decide) (by decide) d_Md_says_12 ?_
  refine x_imul d_Md_says_13 ?_
  refine x_iload_n 1 d_Md_says_14 rfl rfl ?_
  refine x_iadd d_Md_says_15 ?_
  obtain ⟨c1, h⟩ := xguard h
  refine x_iaload sh_70 c1 d_Md_says_16 ?_
  obtain ⟨p2, e3, h⟩ := xbind h
  refine x_callV0 e_Md_287 sh_65 rfl (t_Md_saysOf (V 70 ((6 * (V 66 3)) + a1).toNatClampNeg) V L _ e3) rfl rfl rfl (Nat.le_of_ble_eq_true rfl) (xfit_of (by omega) (Nat.le_of_ble_eq_true rfl)) (Nat.zero_le _) (Nat.zero_le _) d_Md_says_17 ?_
  obtain rfl := Option.some.inj h
  exact x_lreturn rfl d_Md_says_20 (Nat.le_refl _) (Nat.le_refl _) ⟨rfl, rfl⟩
-- Md_warrant
def b_Md_warrant_87 (k32 : Int32 → Int32 → Int32 → xV → xL → Option (Int32 × xV × xL)) (k41 : Int32 → Int32 → Int32 → Int32 → xV → xL → Option (Int32 × xV × xL)) (v2 : Int32) (v3 : Int32) (v4 : Int32) (v5 : Int32) (s0 : Int32) (s1 : Int32) (s2 : Int32) (V : xV) (L : xL) : Option (Int32 × xV × xL) := (Option.bind (f_Md_decrees s2 s1 s0 V) fun p16 => (if p16.1 = 0 then k41 v2 (v3 + 0) v4 (v5 + 1) p16.2 L else k41 v2 (v3 + 1) v4 (v5 + 1) p16.2 L))
theorem tb_Md_warrant_87 (k32 : Int32 → Int32 → Int32 → xV → xL → Option (Int32 × xV × xL)) (k41 : Int32 → Int32 → Int32 → Int32 → xV → xL → Option (Int32 × xV × xL)) (res : Int32 × xV × xL) (hk32 : ∀ (v2 : Int32) (v3 : Int32) (v4 : Int32) (V : xV) (L : xL), k32 v2 v3 v4 V L = some res → X M_Md_warrant (xRm (5) M_Md_warrant) (xZ M_Md_warrant (fun o h' => o = some (.int res.1) ∧ h' = (SH, res.2.1, res.2.2))) SH V L 0 0 32 [(0, .ref 65), (2, .int v2), (3, .int v3), (4, .int v4)] []) (hk41 : ∀ (v2 : Int32) (v3 : Int32) (v4 : Int32) (v5 : Int32) (V : xV) (L : xL), k41 v2 v3 v4 v5 V L = some res → X M_Md_warrant (xRm (5) M_Md_warrant) (xZ M_Md_warrant (fun o h' => o = some (.int res.1) ∧ h' = (SH, res.2.1, res.2.2))) SH V L 0 0 41 [(0, .ref 65), (2, .int v2), (3, .int v3), (4, .int v4), (5, .int v5)] []) (v2 : Int32) (v3 : Int32) (v4 : Int32) (v5 : Int32) (s0 : Int32) (s1 : Int32) (s2 : Int32) (V : xV) (L : xL) (h : b_Md_warrant_87 k32 k41 v2 v3 v4 v5 s0 s1 s2 V L = some res) : X M_Md_warrant (xRm (5) M_Md_warrant) (xZ M_Md_warrant (fun o h' => o = some (.int res.1) ∧ h' = (SH, res.2.1, res.2.2))) SH V L 0 0 87 [(0, .ref 65), (2, .int v2), (3, .int v3), (4, .int v4), (5, .int v5)] [.int s0, .int s1, .int s2, .ref 65] := by
  unfold b_Md_warrant_87 at h
  obtain ⟨p16, e17, h⟩ := xbind h
  refine x_callV0 e_Md_104 sh_65 rfl (t_Md_decrees s2 s1 s0 V L _ e17) rfl rfl rfl (Nat.le_of_ble_eq_true rfl) (xfit_of (by omega) (Nat.le_of_ble_eq_true rfl)) (Nat.zero_le _) (Nat.zero_le _) d_Md_warrant_87 ?_
  refine x_istore [(7, .int p16.1), (0, .ref 65), (2, .int v2), (3, .int v3), (4, .int v4), (5, .int v5)] d_Md_warrant_90 (Nat.le_of_ble_eq_true rfl) rfl ?_
  refine x_iload_n 3 d_Md_warrant_92 rfl rfl ?_
  refine x_iload 0 d_Md_warrant_93 rfl ?_
  refine x_if_eq 102 d_Md_warrant_95 (by decide) (fun c18 => ?_) (fun c18 => ?_)
  · replace h := xpos c18 h
    refine x_iconst 0 d_Md_warrant_102 (by decide) ?_
    refine x_iadd d_Md_warrant_103 ?_
    refine x_istore_n [(3, .int (v3 + 0)), (7, .int p16.1), (0, .ref 65), (2, .int v2), (4, .int v4), (5, .int v5)] d_Md_warrant_104 rfl (Nat.le_of_ble_eq_true rfl) rfl ?_
    refine x_iinc 5 1 [(5, .int (v5 + 1)), (3, .int (v3 + 0)), (7, .int p16.1), (0, .ref 65), (2, .int v2), (4, .int v4)] d_Md_warrant_105 rfl (by decide) (Nat.le_of_ble_eq_true rfl) rfl ?_
    refine x_goto 41 d_Md_warrant_108 (by decide) ?_
    refine x_pick [3, 4, 1, 5, 0] rfl ?_
    exact hk41 v2 (v3 + 0) v4 (v5 + 1) p16.2 L h
  · replace h := xneg c18 h
    refine x_iconst 1 d_Md_warrant_98 (by decide) ?_
    refine x_goto 103 d_Md_warrant_99 (by decide) ?_
    refine x_iadd d_Md_warrant_103 ?_
    refine x_istore_n [(3, .int (v3 + 1)), (7, .int p16.1), (0, .ref 65), (2, .int v2), (4, .int v4), (5, .int v5)] d_Md_warrant_104 rfl (Nat.le_of_ble_eq_true rfl) rfl ?_
    refine x_iinc 5 1 [(5, .int (v5 + 1)), (3, .int (v3 + 1)), (7, .int p16.1), (0, .ref 65), (2, .int v2), (4, .int v4)] d_Md_warrant_105 rfl (by decide) (Nat.le_of_ble_eq_true rfl) rfl ?_
    refine x_goto 41 d_Md_warrant_108 (by decide) ?_
    refine x_pick [3, 4, 1, 5, 0] rfl ?_
    exact hk41 v2 (v3 + 1) v4 (v5 + 1) p16.2 L h
def b_Md_warrant_70 (k32 : Int32 → Int32 → Int32 → xV → xL → Option (Int32 × xV × xL)) (k41 : Int32 → Int32 → Int32 → Int32 → xV → xL → Option (Int32 × xV × xL)) (v2 : Int32) (v3 : Int32) (v4 : Int32) (v5 : Int32) (s0 : Int32) (V : xV) (L : xL) : Option (Int32 × xV × xL) := (if s0 = 0 then b_Md_warrant_87 k32 k41 v2 v3 v4 v5 0 v5 v4 V L else b_Md_warrant_87 k32 k41 v2 v3 v4 v5 1 v5 v4 V L)
theorem tb_Md_warrant_70 (k32 : Int32 → Int32 → Int32 → xV → xL → Option (Int32 × xV × xL)) (k41 : Int32 → Int32 → Int32 → Int32 → xV → xL → Option (Int32 × xV × xL)) (res : Int32 × xV × xL) (hk32 : ∀ (v2 : Int32) (v3 : Int32) (v4 : Int32) (V : xV) (L : xL), k32 v2 v3 v4 V L = some res → X M_Md_warrant (xRm (5) M_Md_warrant) (xZ M_Md_warrant (fun o h' => o = some (.int res.1) ∧ h' = (SH, res.2.1, res.2.2))) SH V L 0 0 32 [(0, .ref 65), (2, .int v2), (3, .int v3), (4, .int v4)] []) (hk41 : ∀ (v2 : Int32) (v3 : Int32) (v4 : Int32) (v5 : Int32) (V : xV) (L : xL), k41 v2 v3 v4 v5 V L = some res → X M_Md_warrant (xRm (5) M_Md_warrant) (xZ M_Md_warrant (fun o h' => o = some (.int res.1) ∧ h' = (SH, res.2.1, res.2.2))) SH V L 0 0 41 [(0, .ref 65), (2, .int v2), (3, .int v3), (4, .int v4), (5, .int v5)] []) (v2 : Int32) (v3 : Int32) (v4 : Int32) (v5 : Int32) (s0 : Int32) (V : xV) (L : xL) (h : b_Md_warrant_70 k32 k41 v2 v3 v4 v5 s0 V L = some res) : X M_Md_warrant (xRm (5) M_Md_warrant) (xZ M_Md_warrant (fun o h' => o = some (.int res.1) ∧ h' = (SH, res.2.1, res.2.2))) SH V L 0 0 70 [(0, .ref 65), (2, .int v2), (3, .int v3), (4, .int v4), (5, .int v5)] [.int s0] := by
  unfold b_Md_warrant_70 at h
  refine x_istore [(6, .int s0), (0, .ref 65), (2, .int v2), (3, .int v3), (4, .int v4), (5, .int v5)] d_Md_warrant_70 (Nat.le_of_ble_eq_true rfl) rfl ?_
  refine x_aload_n 1 d_Md_warrant_72 rfl rfl ?_
  refine x_iload 4 d_Md_warrant_73 rfl ?_
  refine x_iload 5 d_Md_warrant_75 rfl ?_
  refine x_iload 0 d_Md_warrant_77 rfl ?_
  refine x_if_eq 86 d_Md_warrant_79 (by decide) (fun c15 => ?_) (fun c15 => ?_)
  · replace h := xpos c15 h
    refine x_iconst 0 d_Md_warrant_86 (by decide) ?_
    refine x_pick [1, 2, 3, 4, 5] rfl ?_
    exact tb_Md_warrant_87 k32 k41 res hk32 hk41 v2 v3 v4 v5 0 v5 v4 V L h
  · replace h := xneg c15 h
    refine x_iconst 1 d_Md_warrant_82 (by decide) ?_
    refine x_goto 87 d_Md_warrant_83 (by decide) ?_
    refine x_pick [1, 2, 3, 4, 5] rfl ?_
    exact tb_Md_warrant_87 k32 k41 res hk32 hk41 v2 v3 v4 v5 1 v5 v4 V L h
def b_Md_warrant_41 (k32 : Int32 → Int32 → Int32 → xV → xL → Option (Int32 × xV × xL)) (k41 : Int32 → Int32 → Int32 → Int32 → xV → xL → Option (Int32 × xV × xL)) (v2 : Int32) (v3 : Int32) (v4 : Int32) (v5 : Int32) (V : xV) (L : xL) : Option (Int32 × xV × xL) := (if 4 ≤ v5 then k32 v2 v3 (v4 + 1) V L else (Option.bind (f_Md_warrantNames v4 v5 V) fun p10 => (Option.bind (f_Md_says 0 p10 L) fun p12 => (if (lg_cmp p12.1 0) ≤ 0 then b_Md_warrant_70 k32 k41 v2 v3 v4 v5 0 p10 p12.2 else b_Md_warrant_70 k32 k41 v2 v3 v4 v5 1 p10 p12.2))))
theorem tb_Md_warrant_41 (k32 : Int32 → Int32 → Int32 → xV → xL → Option (Int32 × xV × xL)) (k41 : Int32 → Int32 → Int32 → Int32 → xV → xL → Option (Int32 × xV × xL)) (res : Int32 × xV × xL) (hk32 : ∀ (v2 : Int32) (v3 : Int32) (v4 : Int32) (V : xV) (L : xL), k32 v2 v3 v4 V L = some res → X M_Md_warrant (xRm (5) M_Md_warrant) (xZ M_Md_warrant (fun o h' => o = some (.int res.1) ∧ h' = (SH, res.2.1, res.2.2))) SH V L 0 0 32 [(0, .ref 65), (2, .int v2), (3, .int v3), (4, .int v4)] []) (hk41 : ∀ (v2 : Int32) (v3 : Int32) (v4 : Int32) (v5 : Int32) (V : xV) (L : xL), k41 v2 v3 v4 v5 V L = some res → X M_Md_warrant (xRm (5) M_Md_warrant) (xZ M_Md_warrant (fun o h' => o = some (.int res.1) ∧ h' = (SH, res.2.1, res.2.2))) SH V L 0 0 41 [(0, .ref 65), (2, .int v2), (3, .int v3), (4, .int v4), (5, .int v5)] []) (v2 : Int32) (v3 : Int32) (v4 : Int32) (v5 : Int32) (V : xV) (L : xL) (h : b_Md_warrant_41 k32 k41 v2 v3 v4 v5 V L = some res) : X M_Md_warrant (xRm (5) M_Md_warrant) (xZ M_Md_warrant (fun o h' => o = some (.int res.1) ∧ h' = (SH, res.2.1, res.2.2))) SH V L 0 0 41 [(0, .ref 65), (2, .int v2), (3, .int v3), (4, .int v4), (5, .int v5)] [] := by
  unfold b_Md_warrant_41 at h
  refine x_iload 4 d_Md_warrant_41 rfl ?_
  refine x_iconst 4 d_Md_warrant_43 (by decide) ?_
  refine x_icmp_ge 111 d_Md_warrant_44 (by decide) (fun c9 => ?_) (fun c9 => ?_)
  · replace h := xpos c9 h
    refine x_iinc 3 1 [(4, .int (v4 + 1)), (0, .ref 65), (2, .int v2), (3, .int v3), (5, .int v5)] d_Md_warrant_111 rfl (by decide) (Nat.le_of_ble_eq_true rfl) rfl ?_
    refine x_goto 32 d_Md_warrant_114 (by decide) ?_
    refine x_pick [1, 2, 3, 0] rfl ?_
    exact hk32 v2 v3 (v4 + 1) V L h
  · replace h := xneg c9 h
    refine x_aload_n 0 d_Md_warrant_47 rfl rfl ?_
    refine x_iload 3 d_Md_warrant_48 rfl ?_
    refine x_iload 4 d_Md_warrant_50 rfl ?_
    obtain ⟨p10, e11, h⟩ := xbind h
    refine x_callV0v e_Md_298 sh_65 rfl (t_Md_warrantNames v4 v5 V L _ e11) rfl rfl rfl (Nat.le_of_ble_eq_true rfl) (xfit_of (by omega) (Nat.le_of_ble_eq_true rfl)) (Nat.zero_le _) (Nat.zero_le _) d_Md_warrant_52 ?_
    refine x_aload_n 0 d_Md_warrant_55 rfl rfl ?_
    refine x_iconst 0 d_Md_warrant_56 (by decide) ?_
    obtain ⟨p12, e13, h⟩ := xbind h
    refine x_callV0 e_Md_301 sh_65 rfl (t_Md_says 0 p10 L _ e13) rfl rfl rfl (Nat.le_of_ble_eq_true rfl) (xfit_of (by omega) (Nat.le_of_ble_eq_true rfl)) (Nat.zero_le _) (Nat.zero_le _) d_Md_warrant_57 ?_
    refine x_lconst 0 d_Md_warrant_60 (by decide) ?_
    refine x_lcmp d_Md_warrant_61 ?_
    refine x_if_le 69 d_Md_warrant_62 (by decide) (fun c14 => ?_) (fun c14 => ?_)
    · replace h := xpos c14 h
      refine x_iconst 0 d_Md_warrant_69 (by decide) ?_
      exact tb_Md_warrant_70 k32 k41 res hk32 hk41 v2 v3 v4 v5 0 p10 p12.2 h
    · replace h := xneg c14 h
      refine x_iconst 1 d_Md_warrant_65 (by decide) ?_
      refine x_goto 70 d_Md_warrant_66 (by decide) ?_
      exact tb_Md_warrant_70 k32 k41 res hk32 hk41 v2 v3 v4 v5 1 p10 p12.2 h
def g_Md_warrant_41 (k32 : Int32 → Int32 → Int32 → xV → xL → Option (Int32 × xV × xL)) : Nat → Int32 → Int32 → Int32 → Int32 → xV → xL → Option (Int32 × xV × xL)
  | 0, _, _, _, _, _, _ => none
  | n + 1, v2, v3, v4, v5, V, L => b_Md_warrant_41 k32 (g_Md_warrant_41 k32 n) v2 v3 v4 v5 V L
theorem tg_Md_warrant_41 (k32 : Int32 → Int32 → Int32 → xV → xL → Option (Int32 × xV × xL)) (res : Int32 × xV × xL) (hk32 : ∀ (v2 : Int32) (v3 : Int32) (v4 : Int32) (V : xV) (L : xL), k32 v2 v3 v4 V L = some res → X M_Md_warrant (xRm (5) M_Md_warrant) (xZ M_Md_warrant (fun o h' => o = some (.int res.1) ∧ h' = (SH, res.2.1, res.2.2))) SH V L 0 0 32 [(0, .ref 65), (2, .int v2), (3, .int v3), (4, .int v4)] []) : ∀ (n : Nat) (v2 : Int32) (v3 : Int32) (v4 : Int32) (v5 : Int32) (V : xV) (L : xL), g_Md_warrant_41 k32 n v2 v3 v4 v5 V L = some res → X M_Md_warrant (xRm (5) M_Md_warrant) (xZ M_Md_warrant (fun o h' => o = some (.int res.1) ∧ h' = (SH, res.2.1, res.2.2))) SH V L 0 0 41 [(0, .ref 65), (2, .int v2), (3, .int v3), (4, .int v4), (5, .int v5)] []
  | 0, _, _, _, _, _, _, h => by cases h
  | n + 1, v2, v3, v4, v5, V, L, h => tb_Md_warrant_41 k32 (g_Md_warrant_41 k32 n) res hk32 (tg_Md_warrant_41 k32 res hk32 n) v2 v3 v4 v5 V L h
def b_Md_warrant_32 (k32 : Int32 → Int32 → Int32 → xV → xL → Option (Int32 × xV × xL)) (v2 : Int32) (v3 : Int32) (v4 : Int32) (V : xV) (L : xL) : Option (Int32 × xV × xL) := (if v2 < v4 then some (v3, V, L) else g_Md_warrant_41 k32 2000 v2 v3 v4 0 V L)
theorem tb_Md_warrant_32 (k32 : Int32 → Int32 → Int32 → xV → xL → Option (Int32 × xV × xL)) (res : Int32 × xV × xL) (hk32 : ∀ (v2 : Int32) (v3 : Int32) (v4 : Int32) (V : xV) (L : xL), k32 v2 v3 v4 V L = some res → X M_Md_warrant (xRm (5) M_Md_warrant) (xZ M_Md_warrant (fun o h' => o = some (.int res.1) ∧ h' = (SH, res.2.1, res.2.2))) SH V L 0 0 32 [(0, .ref 65), (2, .int v2), (3, .int v3), (4, .int v4)] []) (v2 : Int32) (v3 : Int32) (v4 : Int32) (V : xV) (L : xL) (h : b_Md_warrant_32 k32 v2 v3 v4 V L = some res) : X M_Md_warrant (xRm (5) M_Md_warrant) (xZ M_Md_warrant (fun o h' => o = some (.int res.1) ∧ h' = (SH, res.2.1, res.2.2))) SH V L 0 0 32 [(0, .ref 65), (2, .int v2), (3, .int v3), (4, .int v4)] [] := by
  unfold b_Md_warrant_32 at h
  refine x_iload 3 d_Md_warrant_32 rfl ?_
  refine x_iload_n 1 d_Md_warrant_34 rfl rfl ?_
  refine x_icmp_gt 117 d_Md_warrant_35 (by decide) (fun c8 => ?_) (fun c8 => ?_)
  · replace h := xpos c8 h
    refine x_iload_n 2 d_Md_warrant_117 rfl rfl ?_
    obtain rfl := Option.some.inj h
    exact x_ireturn rfl d_Md_warrant_118 (Nat.le_refl _) (Nat.le_refl _) ⟨rfl, rfl⟩
  · replace h := xneg c8 h
    refine x_iconst 0 d_Md_warrant_38 (by decide) ?_
    refine x_istore [(5, .int 0), (0, .ref 65), (2, .int v2), (3, .int v3), (4, .int v4)] d_Md_warrant_39 (Nat.le_of_ble_eq_true rfl) rfl ?_
    refine x_pick [1, 2, 3, 4, 0] rfl ?_
    exact tg_Md_warrant_41 k32 res hk32 _ v2 v3 v4 0 V L h
def g_Md_warrant_32  : Nat → Int32 → Int32 → Int32 → xV → xL → Option (Int32 × xV × xL)
  | 0, _, _, _, _, _ => none
  | n + 1, v2, v3, v4, V, L => b_Md_warrant_32 (g_Md_warrant_32  n) v2 v3 v4 V L
theorem tg_Md_warrant_32  (res : Int32 × xV × xL)  : ∀ (n : Nat) (v2 : Int32) (v3 : Int32) (v4 : Int32) (V : xV) (L : xL), g_Md_warrant_32  n v2 v3 v4 V L = some res → X M_Md_warrant (xRm (5) M_Md_warrant) (xZ M_Md_warrant (fun o h' => o = some (.int res.1) ∧ h' = (SH, res.2.1, res.2.2))) SH V L 0 0 32 [(0, .ref 65), (2, .int v2), (3, .int v3), (4, .int v4)] []
  | 0, _, _, _, _, _, h => by cases h
  | n + 1, v2, v3, v4, V, L, h => tb_Md_warrant_32 (g_Md_warrant_32  n) res (tg_Md_warrant_32 res n) v2 v3 v4 V L h
def f_Md_warrant (a1 : Int32) (a2 : Int32) (V : xV) (L : xL) : Option (Int32 × xV × xL) := (if (f_Md_isDay a1) = 0 then some ((-1), V, L) else (if (f_Md_in a2 a1 29) = 0 then some ((-1), V, L) else (Option.bind (f_Md_hasClause 0 V) fun p5 => (if ¬ p5 = 0 then g_Md_warrant_32 2000 a2 0 a1 V L else some ((-1), V, L)))))
theorem t_Md_warrant (a1 : Int32) (a2 : Int32) (V : xV) (L : xL) (res : Int32 × xV × xL) (h : f_Md_warrant a1 a2 V L = some res) : xRuns (5) M_Md_warrant [.ref 65, .int a1, .int a2] (SH, V, L) (fun o h' => o = some (.int res.1) ∧ h' = (SH, res.2.1, res.2.2)) := by
  refine xRuns_of (by decide) (Nat.le_of_ble_eq_true rfl) ?_
  unfold f_Md_warrant at h
  show X M_Md_warrant (xRm (5) M_Md_warrant) (xZ M_Md_warrant (fun o h' => o = some (.int res.1) ∧ h' = (SH, res.2.1, res.2.2))) SH V L 0 0 0 [(0, .ref 65), (1, .int a1), (2, .int a2)] []
  refine x_iload_n 1 d_Md_warrant_0 rfl rfl ?_
  refine x_callS0 e_Md_97 (t_Md_isDay a1 V L _ rfl) rfl rfl rfl (Nat.le_of_ble_eq_true rfl) (xfit_of (by omega) (Nat.le_of_ble_eq_true rfl)) (Nat.zero_le _) (Nat.zero_le _) d_Md_warrant_1 ?_
  refine x_if_eq 25 d_Md_warrant_4 (by decide) (fun c2 => ?_) (fun c2 => ?_)
  · replace h := xpos c2 h
    refine x_iconst (-1) d_Md_warrant_25 (by decide) ?_
    obtain rfl := Option.some.inj h
    exact x_ireturn rfl d_Md_warrant_26 (Nat.le_refl _) (Nat.le_refl _) ⟨rfl, rfl⟩
  · replace h := xneg c2 h
    refine x_iload_n 2 d_Md_warrant_7 rfl rfl ?_
    refine x_iload_n 1 d_Md_warrant_8 rfl rfl ?_
    refine x_bipush 29 d_Md_warrant_9 (by decide) ?_
    refine x_callS0 e_Md_89 (t_Md_in a2 a1 29 V L _ rfl) rfl rfl rfl (Nat.le_of_ble_eq_true rfl) (xfit_of (by omega) (Nat.le_of_ble_eq_true rfl)) (Nat.zero_le _) (Nat.zero_le _) d_Md_warrant_11 ?_
    refine x_if_eq 25 d_Md_warrant_14 (by decide) (fun c4 => ?_) (fun c4 => ?_)
    · replace h := xpos c4 h
      refine x_iconst (-1) d_Md_warrant_25 (by decide) ?_
      obtain rfl := Option.some.inj h
      exact x_ireturn rfl d_Md_warrant_26 (Nat.le_refl _) (Nat.le_refl _) ⟨rfl, rfl⟩
    · replace h := xneg c4 h
      refine x_aload_n 0 d_Md_warrant_17 rfl rfl ?_
      refine x_iconst 0 d_Md_warrant_18 (by decide) ?_
      obtain ⟨p5, e6, h⟩ := xbind h
      refine x_callV0 e_Md_295 sh_65 rfl (t_Md_hasClause 0 V L _ e6) rfl rfl rfl (Nat.le_of_ble_eq_true rfl) (xfit_of (by omega) (Nat.le_of_ble_eq_true rfl)) (Nat.zero_le _) (Nat.zero_le _) d_Md_warrant_19 ?_
      refine x_if_ne 27 d_Md_warrant_22 (by decide) (fun c7 => ?_) (fun c7 => ?_)
      · replace h := xpos c7 h
        refine x_iconst 0 d_Md_warrant_27 (by decide) ?_
        refine x_istore_n [(3, .int 0), (0, .ref 65), (1, .int a1), (2, .int a2)] d_Md_warrant_28 rfl (Nat.le_of_ble_eq_true rfl) rfl ?_
        refine x_iload_n 2 d_Md_warrant_29 rfl rfl ?_
        refine x_istore [(4, .int a1), (3, .int 0), (0, .ref 65), (1, .int a1), (2, .int a2)] d_Md_warrant_30 (Nat.le_of_ble_eq_true rfl) rfl ?_
        refine x_pick [2, 4, 1, 0] rfl ?_
        exact tg_Md_warrant_32 res _ a2 0 a1 V L h
      · replace h := xneg c7 h
        refine x_iconst (-1) d_Md_warrant_25 (by decide) ?_
        obtain rfl := Option.some.inj h
        exact x_ireturn rfl d_Md_warrant_26 (Nat.le_refl _) (Nat.le_refl _) ⟨rfl, rfl⟩
-- Md_letGo
def b_Md_letGo_29 (V : xV) (k29 : Int32 → Int32 → Option (Int32)) (v1 : Int32) (v2 : Int32) : Option (Int32) := (if xI v1 1600 = true then (if (V 72 v1.toNatClampNeg) = 408 then some v2 else (if xI v1 1600 = true then (if ¬ (V 72 v1.toNatClampNeg) = 401 then k29 (v1 + 1) v2 else (if xI v1 1600 = true then (if ¬ (V 73 v1.toNatClampNeg) = 4 then k29 (v1 + 1) v2 else k29 (v1 + 1) 1) else none)) else none)) else none)
theorem tb_Md_letGo_29 {V : xV} {L : xL} (k29 : Int32 → Int32 → Option (Int32)) (res : Int32) (hk29 : ∀ (v1 : Int32) (v2 : Int32), k29 v1 v2 = some res → X M_Md_letGo (xRm (2) M_Md_letGo) (xZ M_Md_letGo (fun o h' => o = some (.int res) ∧ h' = (SH, V, L))) SH V L 0 0 29 [(0, .ref 65), (1, .int v1), (2, .int v2)] []) (v1 : Int32) (v2 : Int32) (h : b_Md_letGo_29 V k29 v1 v2 = some res) : X M_Md_letGo (xRm (2) M_Md_letGo) (xZ M_Md_letGo (fun o h' => o = some (.int res) ∧ h' = (SH, V, L))) SH V L 0 0 29 [(0, .ref 65), (1, .int v1), (2, .int v2)] [] := by
  unfold b_Md_letGo_29 at h
  refine x_aload_n 0 d_Md_letGo_29 rfl rfl ?_
  refine x_getP (q := 72) f_Md_36 sh_65 rfl d_Md_letGo_30 ?_
  refine x_iload_n 1 d_Md_letGo_33 rfl rfl ?_
  obtain ⟨c5, h⟩ := xguard h
  refine x_iaload sh_72 c5 d_Md_letGo_34 ?_
  refine x_sipush 408 d_Md_letGo_35 (by decide) ?_
  refine x_icmp_eq 75 d_Md_letGo_38 (by decide) (fun c6 => ?_) (fun c6 => ?_)
  · replace h := xpos c6 h
    refine x_iload_n 2 d_Md_letGo_75 rfl rfl ?_
    obtain rfl := Option.some.inj h
    exact x_ireturn rfl d_Md_letGo_76 (Nat.le_refl _) (Nat.le_refl _) ⟨rfl, rfl⟩
  · replace h := xneg c6 h
    refine x_aload_n 0 d_Md_letGo_41 rfl rfl ?_
    refine x_getP (q := 72) f_Md_36 sh_65 rfl d_Md_letGo_42 ?_
    refine x_iload_n 1 d_Md_letGo_45 rfl rfl ?_
    obtain ⟨c7, h⟩ := xguard h
    refine x_iaload sh_72 c7 d_Md_letGo_46 ?_
    refine x_sipush 401 d_Md_letGo_47 (by decide) ?_
    refine x_icmp_ne 67 d_Md_letGo_50 (by decide) (fun c8 => ?_) (fun c8 => ?_)
    · replace h := xpos c8 h
      refine x_iload_n 2 d_Md_letGo_67 rfl rfl ?_
      refine x_istore_n [(2, .int v2), (0, .ref 65), (1, .int v1)] d_Md_letGo_68 rfl (Nat.le_of_ble_eq_true rfl) rfl ?_
      refine x_iinc 2 1 [(1, .int (v1 + 1)), (2, .int v2), (0, .ref 65)] d_Md_letGo_69 rfl (by decide) (Nat.le_of_ble_eq_true rfl) rfl ?_
      refine x_goto 29 d_Md_letGo_72 (by decide) ?_
      refine x_pick [2, 0, 1] rfl ?_
      exact hk29 (v1 + 1) v2 h
    · replace h := xneg c8 h
      refine x_aload_n 0 d_Md_letGo_53 rfl rfl ?_
      refine x_getP (q := 73) f_Md_39 sh_65 rfl d_Md_letGo_54 ?_
      refine x_iload_n 1 d_Md_letGo_57 rfl rfl ?_
      obtain ⟨c9, h⟩ := xguard h
      refine x_iaload sh_73 c9 d_Md_letGo_58 ?_
      refine x_iconst 4 d_Md_letGo_59 (by decide) ?_
      refine x_icmp_ne 67 d_Md_letGo_60 (by decide) (fun c10 => ?_) (fun c10 => ?_)
      · replace h := xpos c10 h
        refine x_iload_n 2 d_Md_letGo_67 rfl rfl ?_
        refine x_istore_n [(2, .int v2), (0, .ref 65), (1, .int v1)] d_Md_letGo_68 rfl (Nat.le_of_ble_eq_true rfl) rfl ?_
        refine x_iinc 2 1 [(1, .int (v1 + 1)), (2, .int v2), (0, .ref 65)] d_Md_letGo_69 rfl (by decide) (Nat.le_of_ble_eq_true rfl) rfl ?_
        refine x_goto 29 d_Md_letGo_72 (by decide) ?_
        refine x_pick [2, 0, 1] rfl ?_
        exact hk29 (v1 + 1) v2 h
      · replace h := xneg c10 h
        refine x_iconst 1 d_Md_letGo_63 (by decide) ?_
        refine x_goto 68 d_Md_letGo_64 (by decide) ?_
        refine x_istore_n [(2, .int 1), (0, .ref 65), (1, .int v1)] d_Md_letGo_68 rfl (Nat.le_of_ble_eq_true rfl) rfl ?_
        refine x_iinc 2 1 [(1, .int (v1 + 1)), (2, .int 1), (0, .ref 65)] d_Md_letGo_69 rfl (by decide) (Nat.le_of_ble_eq_true rfl) rfl ?_
        refine x_goto 29 d_Md_letGo_72 (by decide) ?_
        refine x_pick [2, 0, 1] rfl ?_
        exact hk29 (v1 + 1) 1 h
def g_Md_letGo_29 (V : xV) : Nat → Int32 → Int32 → Option (Int32)
  | 0, _, _ => none
  | n + 1, v1, v2 => b_Md_letGo_29 V (g_Md_letGo_29 V n) v1 v2
theorem tg_Md_letGo_29 {V : xV} {L : xL} (res : Int32)  : ∀ (n : Nat) (v1 : Int32) (v2 : Int32), g_Md_letGo_29 V n v1 v2 = some res → X M_Md_letGo (xRm (2) M_Md_letGo) (xZ M_Md_letGo (fun o h' => o = some (.int res) ∧ h' = (SH, V, L))) SH V L 0 0 29 [(0, .ref 65), (1, .int v1), (2, .int v2)] []
  | 0, _, _, h => by cases h
  | n + 1, v1, v2, h => tb_Md_letGo_29 (V := V) (L := L) (g_Md_letGo_29 V n) res (tg_Md_letGo_29 (V := V) (L := L) res n) v1 v2 h
def f_Md_letGo (V : xV) : Option (Int32) := (Option.bind (f_Md_hasClause 0 V) fun p1 => (if ¬ p1 = 0 then (if xI ((6 * (V 66 3)) + 0) 24 = true then g_Md_letGo_29 V 2000 (V 70 ((6 * (V 66 3)) + 0).toNatClampNeg) 0 else none) else some (-1)))
theorem t_Md_letGo  (V : xV) (L : xL) (res : Int32) (h : f_Md_letGo V = some res) : xRuns (2) M_Md_letGo [.ref 65] (SH, V, L) (fun o h' => o = some (.int res) ∧ h' = (SH, V, L)) := by
  refine xRuns_of (by decide) (Nat.le_of_ble_eq_true rfl) ?_
  unfold f_Md_letGo at h
  show X M_Md_letGo (xRm (2) M_Md_letGo) (xZ M_Md_letGo (fun o h' => o = some (.int res) ∧ h' = (SH, V, L))) SH V L 0 0 0 [(0, .ref 65)] []
  refine x_aload_n 0 d_Md_letGo_0 rfl rfl ?_
  refine x_iconst 0 d_Md_letGo_1 (by decide) ?_
  obtain ⟨p1, e2, h⟩ := xbind h
  refine x_callV0 e_Md_295 sh_65 rfl (t_Md_hasClause 0 V L _ e2) rfl rfl rfl (Nat.le_of_ble_eq_true rfl) (xfit_of (by omega) (Nat.le_of_ble_eq_true rfl)) (Nat.zero_le _) (Nat.zero_le _) d_Md_letGo_2 ?_
  refine x_if_ne 10 d_Md_letGo_5 (by decide) (fun c3 => ?_) (fun c3 => ?_)
  · replace h := xpos c3 h
    refine x_aload_n 0 d_Md_letGo_10 rfl rfl ?_
    refine x_getP (q := 70) f_Md_30 sh_65 rfl d_Md_letGo_11 ?_
    refine x_bipush 6 d_Md_letGo_14 (by decide) ?_
    refine x_aload_n 0 d_Md_letGo_16 rfl rfl ?_
    refine x_getP (q := 66) f_Md_7 sh_65 rfl d_Md_letGo_17 ?_
    refine x_iconst 3 d_Md_letGo_20 (by decide) ?_
    refine x_ialoadC 3 sh_66 (by decide) (by decide) d_Md_letGo_21 ?_
    refine x_imul d_Md_letGo_22 ?_
    refine x_iconst 0 d_Md_letGo_23 (by decide) ?_
    refine x_iadd d_Md_letGo_24 ?_
    obtain ⟨c4, h⟩ := xguard h
    refine x_iaload sh_70 c4 d_Md_letGo_25 ?_
    refine x_istore_n [(1, .int (V 70 ((6 * (V 66 3)) + 0).toNatClampNeg)), (0, .ref 65)] d_Md_letGo_26 rfl (Nat.le_of_ble_eq_true rfl) rfl ?_
    refine x_iconst 0 d_Md_letGo_27 (by decide) ?_
    refine x_istore_n [(2, .int 0), (1, .int (V 70 ((6 * (V 66 3)) + 0).toNatClampNeg)), (0, .ref 65)] d_Md_letGo_28 rfl (Nat.le_of_ble_eq_true rfl) rfl ?_
    refine x_pick [2, 1, 0] rfl ?_
    exact tg_Md_letGo_29 (V := V) (L := L) res _ (V 70 ((6 * (V 66 3)) + 0).toNatClampNeg) 0 h
  · replace h := xneg c3 h
    refine x_iconst (-1) d_Md_letGo_8 (by decide) ?_
    obtain rfl := Option.some.inj h
    exact x_ireturn rfl d_Md_letGo_9 (Nat.le_refl _) (Nat.le_refl _) ⟨rfl, rfl⟩
-- Md_undo
def f_Md_undo (V : xV) : Option (Int32 × xV) := (if ¬ (V 66 4) = 0 then (if xI (210 + ((x2 V 66 4 ((V 66 4) - 1)) 66 4)) 270 = true then (if xI ((40 + (4 * (((x2 V 66 4 ((V 66 4) - 1)) 66 (210 + ((x2 V 66 4 ((V 66 4) - 1)) 66 4)).toNatClampNeg) / 10))) + (xrem ((x2 V 66 4 ((V 66 4) - 1)) 66 (210 + ((x2 V 66 4 ((V 66 4) - 1)) 66 4)).toNatClampNeg) 10)) 270 = true then (if xI ((40 + (4 * (((x2 V 66 4 ((V 66 4) - 1)) 66 (210 + ((x2 V 66 4 ((V 66 4) - 1)) 66 4)).toNatClampNeg) / 10))) + (xrem ((x2 V 66 4 ((V 66 4) - 1)) 66 (210 + ((x2 V 66 4 ((V 66 4) - 1)) 66 4)).toNatClampNeg) 10)) 270 = true then some ((x2 V 66 4 ((V 66 4) - 1)) 66 (210 + ((x2 V 66 4 ((V 66 4) - 1)) 66 4)).toNatClampNeg, x2 (x2 V 66 4 ((V 66 4) - 1)) 66 (((40 + (4 * (((x2 V 66 4 ((V 66 4) - 1)) 66 (210 + ((x2 V 66 4 ((V 66 4) - 1)) 66 4)).toNatClampNeg) / 10))) + (xrem ((x2 V 66 4 ((V 66 4) - 1)) 66 (210 + ((x2 V 66 4 ((V 66 4) - 1)) 66 4)).toNatClampNeg) 10)).toNatClampNeg) (1 - ((x2 V 66 4 ((V 66 4) - 1)) 66 ((40 + (4 * (((x2 V 66 4 ((V 66 4) - 1)) 66 (210 + ((x2 V 66 4 ((V 66 4) - 1)) 66 4)).toNatClampNeg) / 10))) + (xrem ((x2 V 66 4 ((V 66 4) - 1)) 66 (210 + ((x2 V 66 4 ((V 66 4) - 1)) 66 4)).toNatClampNeg) 10)).toNatClampNeg))) else none) else none) else none) else some ((-1), V))
theorem t_Md_undo  (V : xV) (L : xL) (res : Int32 × xV) (h : f_Md_undo V = some res) : xRuns (1) M_Md_undo [.ref 65] (SH, V, L) (fun o h' => o = some (.int res.1) ∧ h' = (SH, res.2, L)) := by
  refine xRuns_of (by decide) (Nat.le_of_ble_eq_true rfl) ?_
  unfold f_Md_undo at h
  show X M_Md_undo (xRm (1) M_Md_undo) (xZ M_Md_undo (fun o h' => o = some (.int res.1) ∧ h' = (SH, res.2, L))) SH V L 0 0 0 [(0, .ref 65)] []
  refine x_aload_n 0 d_Md_undo_0 rfl rfl ?_
  refine x_getP (q := 66) f_Md_7 sh_65 rfl d_Md_undo_1 ?_
  refine x_iconst 4 d_Md_undo_4 (by decide) ?_
  refine x_ialoadC 4 sh_66 (by decide) (by decide) d_Md_undo_5 ?_
  refine x_if_ne 11 d_Md_undo_6 (by decide) (fun c1 => ?_) (fun c1 => ?_)
  · replace h := xpos c1 h
    refine x_aload_n 0 d_Md_undo_11 rfl rfl ?_
    refine x_getP (q := 66) f_Md_7 sh_65 rfl d_Md_undo_12 ?_
    refine x_iconst 4 d_Md_undo_15 (by decide) ?_
    refine x_dup2 d_Md_undo_16 rfl rfl ?_
    refine x_ialoadC 4 sh_66 (by decide) (by decide) d_Md_undo_17 ?_
    refine x_iconst 1 d_Md_undo_18 (by decide) ?_
    refine x_isub d_Md_undo_19 ?_
    refine x_iastoreC 4 sh_66 (by decide) (by decide) d_Md_undo_20 ?_
    refine x_aload_n 0 d_Md_undo_21 rfl rfl ?_
    refine x_getP (q := 66) f_Md_7 sh_65 rfl d_Md_undo_22 ?_
    refine x_sipush 210 d_Md_undo_25 (by decide) ?_
    refine x_aload_n 0 d_Md_undo_28 rfl rfl ?_
    refine x_getP (q := 66) f_Md_7 sh_65 rfl d_Md_undo_29 ?_
    refine x_iconst 4 d_Md_undo_32 (by decide) ?_
    refine x_ialoadC 4 sh_66 (by decide) (by decide) d_Md_undo_33 ?_
    refine x_iadd d_Md_undo_34 ?_
    obtain ⟨c2, h⟩ := xguard h
    refine x_iaload sh_66 c2 d_Md_undo_35 ?_
    refine x_istore_n [(1, .int ((x2 V 66 4 ((V 66 4) - 1)) 66 (210 + ((x2 V 66 4 ((V 66 4) - 1)) 66 4)).toNatClampNeg)), (0, .ref 65)] d_Md_undo_36 rfl (Nat.le_of_ble_eq_true rfl) rfl ?_
    refine x_bipush 40 d_Md_undo_37 (by decide) ?_
    refine x_iconst 4 d_Md_undo_39 (by decide) ?_
    refine x_iload_n 0 d_Md_undo_40 rfl rfl ?_
    refine x_bipush 10 d_Md_undo_41 (by decide) ?_
    refine x_idiv d_Md_undo_43 (by decide) ?_
    refine x_imul d_Md_undo_44 ?_
    refine x_iadd d_Md_undo_45 ?_
    refine x_iload_n 0 d_Md_undo_46 rfl rfl ?_
    refine x_bipush 10 d_Md_undo_47 (by decide) ?_
    refine x_irem2 d_Md_undo_49 (by decide) ?_
    refine x_iadd d_Md_undo_50 ?_
    refine x_istore_n [(2, .int ((40 + (4 * (((x2 V 66 4 ((V 66 4) - 1)) 66 (210 + ((x2 V 66 4 ((V 66 4) - 1)) 66 4)).toNatClampNeg) / 10))) + (xrem ((x2 V 66 4 ((V 66 4) - 1)) 66 (210 + ((x2 V 66 4 ((V 66 4) - 1)) 66 4)).toNatClampNeg) 10))), (1, .int ((x2 V 66 4 ((V 66 4) - 1)) 66 (210 + ((x2 V 66 4 ((V 66 4) - 1)) 66 4)).toNatClampNeg)), (0, .ref 65)] d_Md_undo_51 rfl (Nat.le_of_ble_eq_true rfl) rfl ?_
    refine x_aload_n 2 d_Md_undo_52 rfl rfl ?_
    refine x_getP (q := 66) f_Md_7 sh_65 rfl d_Md_undo_53 ?_
    refine x_iload_n 0 d_Md_undo_56 rfl rfl ?_
    refine x_iconst 1 d_Md_undo_57 (by decide) ?_
    refine x_aload_n 2 d_Md_undo_58 rfl rfl ?_
    refine x_getP (q := 66) f_Md_7 sh_65 rfl d_Md_undo_59 ?_
    refine x_iload_n 0 d_Md_undo_62 rfl rfl ?_
    obtain ⟨c3, h⟩ := xguard h
    refine x_iaload sh_66 c3 d_Md_undo_63 ?_
    refine x_isub d_Md_undo_64 ?_
    obtain ⟨c4, h⟩ := xguard h
    refine x_iastore sh_66 c4 d_Md_undo_65 ?_
    refine x_iload_n 1 d_Md_undo_66 rfl rfl ?_
    obtain rfl := Option.some.inj h
    exact x_ireturn rfl d_Md_undo_67 (Nat.le_refl _) (Nat.le_refl _) ⟨rfl, rfl⟩
  · replace h := xneg c1 h
    refine x_iconst (-1) d_Md_undo_9 (by decide) ?_
    obtain rfl := Option.some.inj h
    exact x_ireturn rfl d_Md_undo_10 (Nat.le_refl _) (Nat.le_refl _) ⟨rfl, rfl⟩
-- Md_provinceOf
def f_Md_provinceOf (a1 : Int32) (V : xV) : Option (Int32) := (if xI (170 + (3 * a1)) 270 = true then some (V 66 (170 + (3 * a1)).toNatClampNeg) else none)
theorem t_Md_provinceOf (a1 : Int32) (V : xV) (L : xL) (res : Int32) (h : f_Md_provinceOf a1 V = some res) : xRuns (1) M_Md_provinceOf [.ref 65, .int a1] (SH, V, L) (fun o h' => o = some (.int res) ∧ h' = (SH, V, L)) := by
  refine xRuns_of (by decide) (Nat.le_of_ble_eq_true rfl) ?_
  unfold f_Md_provinceOf at h
  show X M_Md_provinceOf (xRm (1) M_Md_provinceOf) (xZ M_Md_provinceOf (fun o h' => o = some (.int res) ∧ h' = (SH, V, L))) SH V L 0 0 0 [(0, .ref 65), (1, .int a1)] []
  refine x_aload_n 0 d_Md_provinceOf_0 rfl rfl ?_
  refine x_getP (q := 66) f_Md_7 sh_65 rfl d_Md_provinceOf_1 ?_
  refine x_sipush 170 d_Md_provinceOf_4 (by decide) ?_
  refine x_iconst 3 d_Md_provinceOf_7 (by decide) ?_
  refine x_iload_n 1 d_Md_provinceOf_8 rfl rfl ?_
  refine x_imul d_Md_provinceOf_9 ?_
  refine x_iadd d_Md_provinceOf_10 ?_
  obtain ⟨c1, h⟩ := xguard h
  refine x_iaload sh_66 c1 d_Md_provinceOf_11 ?_
  obtain rfl := Option.some.inj h
  exact x_ireturn rfl d_Md_provinceOf_12 (Nat.le_refl _) (Nat.le_refl _) ⟨rfl, rfl⟩
-- Md_folkNames
def f_Md_folkNames (a1 : Int32) (a2 : Int32) (a3 : Int32) (a4 : Int32) (V : xV) : Option (xV) := (Option.bind (f_Md_provinceOf a1 (x2 V 82 0 a2)) fun p1 => (if xI ((170 + (3 * a1)) + 1) 270 = true then (if xI ((170 + (3 * a1)) + 2) 270 = true then some (x2 (x2 (x2 (x2 (x2 (x2 V 82 0 a2) 82 1 p1) 82 4 a3) 82 5 a4) 82 6 ((x2 (x2 (x2 (x2 V 82 0 a2) 82 1 p1) 82 4 a3) 82 5 a4) 66 ((170 + (3 * a1)) + 1).toNatClampNeg)) 82 7 ((x2 (x2 (x2 (x2 (x2 V 82 0 a2) 82 1 p1) 82 4 a3) 82 5 a4) 82 6 ((x2 (x2 (x2 (x2 V 82 0 a2) 82 1 p1) 82 4 a3) 82 5 a4) 66 ((170 + (3 * a1)) + 1).toNatClampNeg)) 66 ((170 + (3 * a1)) + 2).toNatClampNeg)) else none) else none))
theorem t_Md_folkNames (a1 : Int32) (a2 : Int32) (a3 : Int32) (a4 : Int32) (V : xV) (L : xL) (res : xV) (h : f_Md_folkNames a1 a2 a3 a4 V = some res) : xRuns (2) M_Md_folkNames [.ref 65, .int a1, .int a2, .int a3, .int a4] (SH, V, L) (fun o h' => o = none ∧ h' = (SH, res, L)) := by
  refine xRuns_of (by decide) (Nat.le_of_ble_eq_true rfl) ?_
  unfold f_Md_folkNames at h
  show X M_Md_folkNames (xRm (2) M_Md_folkNames) (xZ M_Md_folkNames (fun o h' => o = none ∧ h' = (SH, res, L))) SH V L 0 0 0 [(0, .ref 65), (1, .int a1), (2, .int a2), (3, .int a3), (4, .int a4)] []
  refine x_aload_n 0 d_Md_folkNames_0 rfl rfl ?_
  refine x_getP (q := 82) f_Md_66 sh_65 rfl d_Md_folkNames_1 ?_
  refine x_iconst 0 d_Md_folkNames_4 (by decide) ?_
  refine x_iload_n 2 d_Md_folkNames_5 rfl rfl ?_
  refine x_iastoreC 0 sh_82 (by decide) (by decide) d_Md_folkNames_6 ?_
  refine x_aload_n 0 d_Md_folkNames_7 rfl rfl ?_
  refine x_getP (q := 82) f_Md_66 sh_65 rfl d_Md_folkNames_8 ?_
  refine x_iconst 1 d_Md_folkNames_11 (by decide) ?_
  refine x_aload_n 0 d_Md_folkNames_12 rfl rfl ?_
  refine x_iload_n 1 d_Md_folkNames_13 rfl rfl ?_
  obtain ⟨p1, e2, h⟩ := xbind h
  refine x_callV0 e_Md_304 sh_65 rfl (t_Md_provinceOf a1 (x2 V 82 0 a2) L _ e2) rfl rfl rfl (Nat.le_of_ble_eq_true rfl) (xfit_of (by omega) (Nat.le_of_ble_eq_true rfl)) (Nat.zero_le _) (Nat.zero_le _) d_Md_folkNames_14 ?_
  refine x_iastoreC 1 sh_82 (by decide) (by decide) d_Md_folkNames_17 ?_
  refine x_aload_n 0 d_Md_folkNames_18 rfl rfl ?_
  refine x_getP (q := 82) f_Md_66 sh_65 rfl d_Md_folkNames_19 ?_
  refine x_iconst 4 d_Md_folkNames_22 (by decide) ?_
  refine x_iload_n 3 d_Md_folkNames_23 rfl rfl ?_
  refine x_iastoreC 4 sh_82 (by decide) (by decide) d_Md_folkNames_24 ?_
  refine x_aload_n 0 d_Md_folkNames_25 rfl rfl ?_
  refine x_getP (q := 82) f_Md_66 sh_65 rfl d_Md_folkNames_26 ?_
  refine x_iconst 5 d_Md_folkNames_29 (by decide) ?_
  refine x_iload 4 d_Md_folkNames_30 rfl ?_
  refine x_iastoreC 5 sh_82 (by decide) (by decide) d_Md_folkNames_32 ?_
  refine x_aload_n 0 d_Md_folkNames_33 rfl rfl ?_
  refine x_getP (q := 82) f_Md_66 sh_65 rfl d_Md_folkNames_34 ?_
  refine x_bipush 6 d_Md_folkNames_37 (by decide) ?_
  refine x_aload_n 0 d_Md_folkNames_39 rfl rfl ?_
  refine x_getP (q := 66) f_Md_7 sh_65 rfl d_Md_folkNames_40 ?_
  refine x_sipush 170 d_Md_folkNames_43 (by decide) ?_
  refine x_iconst 3 d_Md_folkNames_46 (by decide) ?_
  refine x_iload_n 1 d_Md_folkNames_47 rfl rfl ?_
  refine x_imul d_Md_folkNames_48 ?_
  refine x_iadd d_Md_folkNames_49 ?_
  refine x_iconst 1 d_Md_folkNames_50 (by decide) ?_
  refine x_iadd d_Md_folkNames_51 ?_
  obtain ⟨c3, h⟩ := xguard h
  refine x_iaload sh_66 c3 d_Md_folkNames_52 ?_
  refine x_iastoreC 6 sh_82 (by decide) (by decide) d_Md_folkNames_53 ?_
  refine x_aload_n 0 d_Md_folkNames_54 rfl rfl ?_
  refine x_getP (q := 82) f_Md_66 sh_65 rfl d_Md_folkNames_55 ?_
  refine x_bipush 7 d_Md_folkNames_58 (by decide) ?_
  refine x_aload_n 0 d_Md_folkNames_60 rfl rfl ?_
  refine x_getP (q := 66) f_Md_7 sh_65 rfl d_Md_folkNames_61 ?_
  refine x_sipush 170 d_Md_folkNames_64 (by decide) ?_
  refine x_iconst 3 d_Md_folkNames_67 (by decide) ?_
  refine x_iload_n 1 d_Md_folkNames_68 rfl rfl ?_
  refine x_imul d_Md_folkNames_69 ?_
  refine x_iadd d_Md_folkNames_70 ?_
  refine x_iconst 2 d_Md_folkNames_71 (by decide) ?_
  refine x_iadd d_Md_folkNames_72 ?_
  obtain ⟨c4, h⟩ := xguard h
  refine x_iaload sh_66 c4 d_Md_folkNames_73 ?_
  refine x_iastoreC 7 sh_82 (by decide) (by decide) d_Md_folkNames_74 ?_
  obtain rfl := Option.some.inj h
  exact x_return rfl d_Md_folkNames_75 (Nat.le_refl _) (Nat.le_refl _) ⟨rfl, rfl⟩
-- Md_does
def f_Md_does (a1 : Int32) (a2 : Int32) (a3 : Int32) (a4 : Int32) (V : xV) (L : xL) : Option (Int32 × xV × xL) := (Option.bind (f_Md_folkNames a1 a2 a3 a4 V) fun p1 => (Option.bind (f_Md_hasClause 1 p1) fun p3 => (if p3 = 0 then some (0, p1, L) else (Option.bind (f_Md_says 1 p1 L) fun p6 => (if (lg_cmp p6.1 0) ≤ 0 then some (0, p1, p6.2) else some (1, p1, p6.2))))))
theorem t_Md_does (a1 : Int32) (a2 : Int32) (a3 : Int32) (a4 : Int32) (V : xV) (L : xL) (res : Int32 × xV × xL) (h : f_Md_does a1 a2 a3 a4 V L = some res) : xRuns (5) M_Md_does [.ref 65, .int a1, .int a2, .int a3, .int a4] (SH, V, L) (fun o h' => o = some (.int res.1) ∧ h' = (SH, res.2.1, res.2.2)) := by
  refine xRuns_of (by decide) (Nat.le_of_ble_eq_true rfl) ?_
  unfold f_Md_does at h
  show X M_Md_does (xRm (5) M_Md_does) (xZ M_Md_does (fun o h' => o = some (.int res.1) ∧ h' = (SH, res.2.1, res.2.2))) SH V L 0 0 0 [(0, .ref 65), (1, .int a1), (2, .int a2), (3, .int a3), (4, .int a4)] []
  refine x_aload_n 0 d_Md_does_0 rfl rfl ?_
  refine x_iload_n 1 d_Md_does_1 rfl rfl ?_
  refine x_iload_n 2 d_Md_does_2 rfl rfl ?_
  refine x_iload_n 3 d_Md_does_3 rfl rfl ?_
  refine x_iload 4 d_Md_does_4 rfl ?_
  obtain ⟨p1, e2, h⟩ := xbind h
  refine x_callV0v e_Md_307 sh_65 rfl (t_Md_folkNames a1 a2 a3 a4 V L _ e2) rfl rfl rfl (Nat.le_of_ble_eq_true rfl) (xfit_of (by omega) (Nat.le_of_ble_eq_true rfl)) (Nat.zero_le _) (Nat.zero_le _) d_Md_does_6 ?_
  refine x_aload_n 0 d_Md_does_9 rfl rfl ?_
  refine x_iconst 1 d_Md_does_10 (by decide) ?_
  obtain ⟨p3, e4, h⟩ := xbind h
  refine x_callV0 e_Md_295 sh_65 rfl (t_Md_hasClause 1 p1 L _ e4) rfl rfl rfl (Nat.le_of_ble_eq_true rfl) (xfit_of (by omega) (Nat.le_of_ble_eq_true rfl)) (Nat.zero_le _) (Nat.zero_le _) d_Md_does_11 ?_
  refine x_if_eq 31 d_Md_does_14 (by decide) (fun c5 => ?_) (fun c5 => ?_)
  · replace h := xpos c5 h
    refine x_iconst 0 d_Md_does_31 (by decide) ?_
    obtain rfl := Option.some.inj h
    exact x_zreturn rfl rfl d_Md_does_32 (Nat.le_refl _) (Nat.le_refl _) ⟨rfl, rfl⟩
  · replace h := xneg c5 h
    refine x_aload_n 0 d_Md_does_17 rfl rfl ?_
    refine x_iconst 1 d_Md_does_18 (by decide) ?_
    obtain ⟨p6, e7, h⟩ := xbind h
    refine x_callV0 e_Md_301 sh_65 rfl (t_Md_says 1 p1 L _ e7) rfl rfl rfl (Nat.le_of_ble_eq_true rfl) (xfit_of (by omega) (Nat.le_of_ble_eq_true rfl)) (Nat.zero_le _) (Nat.zero_le _) d_Md_does_19 ?_
    refine x_lconst 0 d_Md_does_22 (by decide) ?_
    refine x_lcmp d_Md_does_23 ?_
    refine x_if_le 31 d_Md_does_24 (by decide) (fun c8 => ?_) (fun c8 => ?_)
    · replace h := xpos c8 h
      refine x_iconst 0 d_Md_does_31 (by decide) ?_
      obtain rfl := Option.some.inj h
      exact x_zreturn rfl rfl d_Md_does_32 (Nat.le_refl _) (Nat.le_refl _) ⟨rfl, rfl⟩
    · replace h := xneg c8 h
      refine x_iconst 1 d_Md_does_27 (by decide) ?_
      refine x_goto 32 d_Md_does_28 (by decide) ?_
      obtain rfl := Option.some.inj h
      exact x_zreturn rfl rfl d_Md_does_32 (Nat.le_refl _) (Nat.le_refl _) ⟨rfl, rfl⟩
-- Md_hats
def b_Md_hats_6 (k6 : Int32 → Int32 → Int32 → Int32 → Int32 → Int32 → xV → xL → Option (Int32 × xV × xL)) (v1 : Int32) (v2 : Int32) (v3 : Int32) (v4 : Int32) (v5 : Int32) (v6 : Int32) (V : xV) (L : xL) : Option (Int32 × xV × xL) := (if (V 66 0) ≤ v6 then some (v5, V, L) else (Option.bind (f_Md_provinceOf v6 V) fun p2 => (if ¬ p2 = v1 then k6 v1 v2 v3 v4 v5 (v6 + 1) V L else (Option.bind (f_Md_does v6 v2 v3 v4 V L) fun p5 => (if p5.1 = 0 then k6 v1 v2 v3 v4 (v5 + 0) (v6 + 1) p5.2.1 p5.2.2 else k6 v1 v2 v3 v4 (v5 + 1) (v6 + 1) p5.2.1 p5.2.2)))))
theorem tb_Md_hats_6 (k6 : Int32 → Int32 → Int32 → Int32 → Int32 → Int32 → xV → xL → Option (Int32 × xV × xL)) (res : Int32 × xV × xL) (hk6 : ∀ (v1 : Int32) (v2 : Int32) (v3 : Int32) (v4 : Int32) (v5 : Int32) (v6 : Int32) (V : xV) (L : xL), k6 v1 v2 v3 v4 v5 v6 V L = some res → X M_Md_hats (xRm (6) M_Md_hats) (xZ M_Md_hats (fun o h' => o = some (.int res.1) ∧ h' = (SH, res.2.1, res.2.2))) SH V L 0 0 6 [(0, .ref 65), (1, .int v1), (2, .int v2), (3, .int v3), (4, .int v4), (5, .int v5), (6, .int v6)] []) (v1 : Int32) (v2 : Int32) (v3 : Int32) (v4 : Int32) (v5 : Int32) (v6 : Int32) (V : xV) (L : xL) (h : b_Md_hats_6 k6 v1 v2 v3 v4 v5 v6 V L = some res) : X M_Md_hats (xRm (6) M_Md_hats) (xZ M_Md_hats (fun o h' => o = some (.int res.1) ∧ h' = (SH, res.2.1, res.2.2))) SH V L 0 0 6 [(0, .ref 65), (1, .int v1), (2, .int v2), (3, .int v3), (4, .int v4), (5, .int v5), (6, .int v6)] [] := by
  unfold b_Md_hats_6 at h
  refine x_iload 6 d_Md_hats_6 rfl ?_
  refine x_aload_n 0 d_Md_hats_8 rfl rfl ?_
  refine x_getP (q := 66) f_Md_7 sh_65 rfl d_Md_hats_9 ?_
  refine x_iconst 0 d_Md_hats_12 (by decide) ?_
  refine x_ialoadC 0 sh_66 (by decide) (by decide) d_Md_hats_13 ?_
  refine x_icmp_ge 60 d_Md_hats_14 (by decide) (fun c1 => ?_) (fun c1 => ?_)
  · replace h := xpos c1 h
    refine x_iload 5 d_Md_hats_60 rfl ?_
    obtain rfl := Option.some.inj h
    exact x_ireturn rfl d_Md_hats_62 (Nat.le_refl _) (Nat.le_refl _) ⟨rfl, rfl⟩
  · replace h := xneg c1 h
    refine x_aload_n 0 d_Md_hats_17 rfl rfl ?_
    refine x_iload 6 d_Md_hats_18 rfl ?_
    obtain ⟨p2, e3, h⟩ := xbind h
    refine x_callV0 e_Md_304 sh_65 rfl (t_Md_provinceOf v6 V L _ e3) rfl rfl rfl (Nat.le_of_ble_eq_true rfl) (xfit_of (by omega) (Nat.le_of_ble_eq_true rfl)) (Nat.zero_le _) (Nat.zero_le _) d_Md_hats_20 ?_
    refine x_iload_n 1 d_Md_hats_23 rfl rfl ?_
    refine x_icmp_ne 54 d_Md_hats_24 (by decide) (fun c4 => ?_) (fun c4 => ?_)
    · replace h := xpos c4 h
      refine x_iinc 6 1 [(6, .int (v6 + 1)), (0, .ref 65), (1, .int v1), (2, .int v2), (3, .int v3), (4, .int v4), (5, .int v5)] d_Md_hats_54 rfl (by decide) (Nat.le_of_ble_eq_true rfl) rfl ?_
      refine x_goto 6 d_Md_hats_57 (by decide) ?_
      refine x_pick [1, 2, 3, 4, 5, 6, 0] rfl ?_
      exact hk6 v1 v2 v3 v4 v5 (v6 + 1) V L h
    · replace h := xneg c4 h
      refine x_aload_n 0 d_Md_hats_27 rfl rfl ?_
      refine x_iload 6 d_Md_hats_28 rfl ?_
      refine x_iload_n 2 d_Md_hats_30 rfl rfl ?_
      refine x_iload_n 3 d_Md_hats_31 rfl rfl ?_
      refine x_iload 4 d_Md_hats_32 rfl ?_
      obtain ⟨p5, e6, h⟩ := xbind h
      refine x_callV0 e_Md_311 sh_65 rfl (t_Md_does v6 v2 v3 v4 V L _ e6) rfl rfl rfl (Nat.le_of_ble_eq_true rfl) (xfit_of (by omega) (Nat.le_of_ble_eq_true rfl)) (Nat.zero_le _) (Nat.zero_le _) d_Md_hats_34 ?_
      refine x_istore [(7, .int p5.1), (0, .ref 65), (1, .int v1), (2, .int v2), (3, .int v3), (4, .int v4), (5, .int v5), (6, .int v6)] d_Md_hats_37 (Nat.le_of_ble_eq_true rfl) rfl ?_
      refine x_iload 6 d_Md_hats_39 rfl ?_
      refine x_iload 0 d_Md_hats_41 rfl ?_
      refine x_if_eq 50 d_Md_hats_43 (by decide) (fun c7 => ?_) (fun c7 => ?_)
      · replace h := xpos c7 h
        refine x_iconst 0 d_Md_hats_50 (by decide) ?_
        refine x_iadd d_Md_hats_51 ?_
        refine x_istore [(5, .int (v5 + 0)), (7, .int p5.1), (0, .ref 65), (1, .int v1), (2, .int v2), (3, .int v3), (4, .int v4), (6, .int v6)] d_Md_hats_52 (Nat.le_of_ble_eq_true rfl) rfl ?_
        refine x_iinc 7 1 [(6, .int (v6 + 1)), (5, .int (v5 + 0)), (7, .int p5.1), (0, .ref 65), (1, .int v1), (2, .int v2), (3, .int v3), (4, .int v4)] d_Md_hats_54 rfl (by decide) (Nat.le_of_ble_eq_true rfl) rfl ?_
        refine x_goto 6 d_Md_hats_57 (by decide) ?_
        refine x_pick [3, 4, 5, 6, 7, 1, 0] rfl ?_
        exact hk6 v1 v2 v3 v4 (v5 + 0) (v6 + 1) p5.2.1 p5.2.2 h
      · replace h := xneg c7 h
        refine x_iconst 1 d_Md_hats_46 (by decide) ?_
        refine x_goto 51 d_Md_hats_47 (by decide) ?_
        refine x_iadd d_Md_hats_51 ?_
        refine x_istore [(5, .int (v5 + 1)), (7, .int p5.1), (0, .ref 65), (1, .int v1), (2, .int v2), (3, .int v3), (4, .int v4), (6, .int v6)] d_Md_hats_52 (Nat.le_of_ble_eq_true rfl) rfl ?_
        refine x_iinc 7 1 [(6, .int (v6 + 1)), (5, .int (v5 + 1)), (7, .int p5.1), (0, .ref 65), (1, .int v1), (2, .int v2), (3, .int v3), (4, .int v4)] d_Md_hats_54 rfl (by decide) (Nat.le_of_ble_eq_true rfl) rfl ?_
        refine x_goto 6 d_Md_hats_57 (by decide) ?_
        refine x_pick [3, 4, 5, 6, 7, 1, 0] rfl ?_
        exact hk6 v1 v2 v3 v4 (v5 + 1) (v6 + 1) p5.2.1 p5.2.2 h
def g_Md_hats_6  : Nat → Int32 → Int32 → Int32 → Int32 → Int32 → Int32 → xV → xL → Option (Int32 × xV × xL)
  | 0, _, _, _, _, _, _, _, _ => none
  | n + 1, v1, v2, v3, v4, v5, v6, V, L => b_Md_hats_6 (g_Md_hats_6  n) v1 v2 v3 v4 v5 v6 V L
theorem tg_Md_hats_6  (res : Int32 × xV × xL)  : ∀ (n : Nat) (v1 : Int32) (v2 : Int32) (v3 : Int32) (v4 : Int32) (v5 : Int32) (v6 : Int32) (V : xV) (L : xL), g_Md_hats_6  n v1 v2 v3 v4 v5 v6 V L = some res → X M_Md_hats (xRm (6) M_Md_hats) (xZ M_Md_hats (fun o h' => o = some (.int res.1) ∧ h' = (SH, res.2.1, res.2.2))) SH V L 0 0 6 [(0, .ref 65), (1, .int v1), (2, .int v2), (3, .int v3), (4, .int v4), (5, .int v5), (6, .int v6)] []
  | 0, _, _, _, _, _, _, _, _, h => by cases h
  | n + 1, v1, v2, v3, v4, v5, v6, V, L, h => tb_Md_hats_6 (g_Md_hats_6  n) res (tg_Md_hats_6 res n) v1 v2 v3 v4 v5 v6 V L h
def f_Md_hats (a1 : Int32) (a2 : Int32) (a3 : Int32) (a4 : Int32) (V : xV) (L : xL) : Option (Int32 × xV × xL) := g_Md_hats_6 2000 a1 a2 a3 a4 0 0 V L
theorem t_Md_hats (a1 : Int32) (a2 : Int32) (a3 : Int32) (a4 : Int32) (V : xV) (L : xL) (res : Int32 × xV × xL) (h : f_Md_hats a1 a2 a3 a4 V L = some res) : xRuns (6) M_Md_hats [.ref 65, .int a1, .int a2, .int a3, .int a4] (SH, V, L) (fun o h' => o = some (.int res.1) ∧ h' = (SH, res.2.1, res.2.2)) := by
  refine xRuns_of (by decide) (Nat.le_of_ble_eq_true rfl) ?_
  unfold f_Md_hats at h
  show X M_Md_hats (xRm (6) M_Md_hats) (xZ M_Md_hats (fun o h' => o = some (.int res.1) ∧ h' = (SH, res.2.1, res.2.2))) SH V L 0 0 0 [(0, .ref 65), (1, .int a1), (2, .int a2), (3, .int a3), (4, .int a4)] []
  refine x_iconst 0 d_Md_hats_0 (by decide) ?_
  refine x_istore [(5, .int 0), (0, .ref 65), (1, .int a1), (2, .int a2), (3, .int a3), (4, .int a4)] d_Md_hats_1 (Nat.le_of_ble_eq_true rfl) rfl ?_
  refine x_iconst 0 d_Md_hats_3 (by decide) ?_
  refine x_istore [(6, .int 0), (5, .int 0), (0, .ref 65), (1, .int a1), (2, .int a2), (3, .int a3), (4, .int a4)] d_Md_hats_4 (Nat.le_of_ble_eq_true rfl) rfl ?_
  refine x_pick [2, 3, 4, 5, 6, 1, 0] rfl ?_
  exact tg_Md_hats_6 res _ a1 a2 a3 a4 0 0 V L h
-- Md_of
def f_Md_of (a1 : Int32) (a2 : Int32) (a3 : Int32) (V : xV) (L : xL) : Option (Int32 × xV × xL) := (if (f_Md_isDay a1) = 0 then some ((-1), V, L) else (if ¬ (f_Md_isProvince a2) = 0 then (if a3 = 0 then (if xI (10 + a1) 270 = true then some (V 66 (10 + a1).toNatClampNeg, V, L) else none) else (if a3 = 1 then (Option.bind (f_Md_decreeOf a1 a2 V) fun p8 => some (p8, V, L)) else (if a3 = 2 then (if xI (10 + a1) 270 = true then (Option.bind (f_Md_decreeOf a1 a2 V) fun p12 => (Option.bind (f_Md_hats a2 a1 (V 66 (10 + a1).toNatClampNeg) p12 V L) fun p14 => some (p14.1, p14.2.1, p14.2.2))) else none) else some ((-1), V, L)))) else some ((-1), V, L)))
theorem t_Md_of (a1 : Int32) (a2 : Int32) (a3 : Int32) (V : xV) (L : xL) (res : Int32 × xV × xL) (h : f_Md_of a1 a2 a3 V L = some res) : xRuns (7) M_Md_of [.ref 65, .int a1, .int a2, .int a3] (SH, V, L) (fun o h' => o = some (.int res.1) ∧ h' = (SH, res.2.1, res.2.2)) := by
  refine xRuns_of (by decide) (Nat.le_of_ble_eq_true rfl) ?_
  unfold f_Md_of at h
  show X M_Md_of (xRm (7) M_Md_of) (xZ M_Md_of (fun o h' => o = some (.int res.1) ∧ h' = (SH, res.2.1, res.2.2))) SH V L 0 0 0 [(0, .ref 65), (1, .int a1), (2, .int a2), (3, .int a3)] []
  refine x_iload_n 1 d_Md_of_0 rfl rfl ?_
  refine x_callS0 e_Md_97 (t_Md_isDay a1 V L _ rfl) rfl rfl rfl (Nat.le_of_ble_eq_true rfl) (xfit_of (by omega) (Nat.le_of_ble_eq_true rfl)) (Nat.zero_le _) (Nat.zero_le _) d_Md_of_1 ?_
  refine x_if_eq 14 d_Md_of_4 (by decide) (fun c2 => ?_) (fun c2 => ?_)
  · replace h := xpos c2 h
    refine x_iconst (-1) d_Md_of_14 (by decide) ?_
    obtain rfl := Option.some.inj h
    exact x_ireturn rfl d_Md_of_15 (Nat.le_refl _) (Nat.le_refl _) ⟨rfl, rfl⟩
  · replace h := xneg c2 h
    refine x_iload_n 2 d_Md_of_7 rfl rfl ?_
    refine x_callS0 e_Md_93 (t_Md_isProvince a2 V L _ rfl) rfl rfl rfl (Nat.le_of_ble_eq_true rfl) (xfit_of (by omega) (Nat.le_of_ble_eq_true rfl)) (Nat.zero_le _) (Nat.zero_le _) d_Md_of_8 ?_
    refine x_if_ne 16 d_Md_of_11 (by decide) (fun c4 => ?_) (fun c4 => ?_)
    · replace h := xpos c4 h
      refine x_iload_n 3 d_Md_of_16 rfl rfl ?_
      by_cases c5 : a3 = 0
      · replace h := xpos c5 h
        refine x_tableIn 27 44 d_Md_of_17 (by rw [c5]; decide) (by rw [c5]; decide) (by rw [c5]; rfl) (by decide) ?_
        refine x_aload_n 0 d_Md_of_44 rfl rfl ?_
        refine x_getP (q := 66) f_Md_7 sh_65 rfl d_Md_of_45 ?_
        refine x_bipush 10 d_Md_of_48 (by decide) ?_
        refine x_iload_n 1 d_Md_of_50 rfl rfl ?_
        refine x_iadd d_Md_of_51 ?_
        obtain ⟨c6, h⟩ := xguard h
        refine x_iaload sh_66 c6 d_Md_of_52 ?_
        obtain rfl := Option.some.inj h
        exact x_ireturn rfl d_Md_of_53 (Nat.le_refl _) (Nat.le_refl _) ⟨rfl, rfl⟩
      replace h := xneg c5 h
      by_cases c7 : a3 = 1
      · replace h := xpos c7 h
        refine x_tableIn 37 54 d_Md_of_17 (by rw [c7]; decide) (by rw [c7]; decide) (by rw [c7]; rfl) (by decide) ?_
        refine x_aload_n 0 d_Md_of_54 rfl rfl ?_
        refine x_iload_n 1 d_Md_of_55 rfl rfl ?_
        refine x_iload_n 2 d_Md_of_56 rfl rfl ?_
        obtain ⟨p8, e9, h⟩ := xbind h
        refine x_callV0 e_Md_291 sh_65 rfl (t_Md_decreeOf a1 a2 V L _ e9) rfl rfl rfl (Nat.le_of_ble_eq_true rfl) (xfit_of (by omega) (Nat.le_of_ble_eq_true rfl)) (Nat.zero_le _) (Nat.zero_le _) d_Md_of_57 ?_
        obtain rfl := Option.some.inj h
        exact x_ireturn rfl d_Md_of_60 (Nat.le_refl _) (Nat.le_refl _) ⟨rfl, rfl⟩
      replace h := xneg c7 h
      by_cases c10 : a3 = 2
      · replace h := xpos c10 h
        refine x_tableIn 44 61 d_Md_of_17 (by rw [c10]; decide) (by rw [c10]; decide) (by rw [c10]; rfl) (by decide) ?_
        refine x_aload_n 0 d_Md_of_61 rfl rfl ?_
        refine x_iload_n 2 d_Md_of_62 rfl rfl ?_
        refine x_iload_n 1 d_Md_of_63 rfl rfl ?_
        refine x_aload_n 0 d_Md_of_64 rfl rfl ?_
        refine x_getP (q := 66) f_Md_7 sh_65 rfl d_Md_of_65 ?_
        refine x_bipush 10 d_Md_of_68 (by decide) ?_
        refine x_iload_n 1 d_Md_of_70 rfl rfl ?_
        refine x_iadd d_Md_of_71 ?_
        obtain ⟨c11, h⟩ := xguard h
        refine x_iaload sh_66 c11 d_Md_of_72 ?_
        refine x_aload_n 0 d_Md_of_73 rfl rfl ?_
        refine x_iload_n 1 d_Md_of_74 rfl rfl ?_
        refine x_iload_n 2 d_Md_of_75 rfl rfl ?_
        obtain ⟨p12, e13, h⟩ := xbind h
        refine x_callV0 e_Md_291 sh_65 rfl (t_Md_decreeOf a1 a2 V L _ e13) rfl rfl rfl (Nat.le_of_ble_eq_true rfl) (xfit_of (by omega) (Nat.le_of_ble_eq_true rfl)) (Nat.zero_le _) (Nat.zero_le _) d_Md_of_76 ?_
        obtain ⟨p14, e15, h⟩ := xbind h
        refine x_callV0 e_Md_315 sh_65 rfl (t_Md_hats a2 a1 (V 66 (10 + a1).toNatClampNeg) p12 V L _ e15) rfl rfl rfl (Nat.le_of_ble_eq_true rfl) (xfit_of (by omega) (Nat.le_of_ble_eq_true rfl)) (Nat.zero_le _) (Nat.zero_le _) d_Md_of_79 ?_
        obtain rfl := Option.some.inj h
        exact x_ireturn rfl d_Md_of_82 (Nat.le_refl _) (Nat.le_refl _) ⟨rfl, rfl⟩
      replace h := xneg c10 h
      refine x_tableOut 83 d_Md_of_17 (by have n0 := lv_neT c5 (a := 0) rfl; have n1 := lv_neT c7 (a := 1) rfl; have n2 := lv_neT c10 (a := 2) rfl; omega) (by decide) ?_
      refine x_iconst (-1) d_Md_of_83 (by decide) ?_
      obtain rfl := Option.some.inj h
      exact x_ireturn rfl d_Md_of_84 (Nat.le_refl _) (Nat.le_refl _) ⟨rfl, rfl⟩
    · replace h := xneg c4 h
      refine x_iconst (-1) d_Md_of_14 (by decide) ?_
      obtain rfl := Option.some.inj h
      exact x_ireturn rfl d_Md_of_15 (Nat.le_refl _) (Nat.le_refl _) ⟨rfl, rfl⟩
-- Md_isFolk
def f_Md_isFolk (a1 : Int32) (V : xV) : Int32 := (f_Md_in a1 0 ((V 66 0) - 1))
theorem t_Md_isFolk (a1 : Int32) (V : xV) (L : xL) (res : Int32) (h : f_Md_isFolk a1 V = res) : xRuns (2) M_Md_isFolk [.ref 65, .int a1] (SH, V, L) (fun o h' => o = some (.int res) ∧ h' = (SH, V, L)) := by
  refine xRuns_of (by decide) (Nat.le_of_ble_eq_true rfl) ?_
  unfold f_Md_isFolk at h
  show X M_Md_isFolk (xRm (2) M_Md_isFolk) (xZ M_Md_isFolk (fun o h' => o = some (.int res) ∧ h' = (SH, V, L))) SH V L 0 0 0 [(0, .ref 65), (1, .int a1)] []
  refine x_iload_n 1 d_Md_isFolk_0 rfl rfl ?_
  refine x_iconst 0 d_Md_isFolk_1 (by decide) ?_
  refine x_aload_n 0 d_Md_isFolk_2 rfl rfl ?_
  refine x_getP (q := 66) f_Md_7 sh_65 rfl d_Md_isFolk_3 ?_
  refine x_iconst 0 d_Md_isFolk_6 (by decide) ?_
  refine x_ialoadC 0 sh_66 (by decide) (by decide) d_Md_isFolk_7 ?_
  refine x_iconst 1 d_Md_isFolk_8 (by decide) ?_
  refine x_isub d_Md_isFolk_9 ?_
  refine x_callS0 e_Md_89 (t_Md_in a1 0 ((V 66 0) - 1) V L _ rfl) rfl rfl rfl (Nat.le_of_ble_eq_true rfl) (xfit_of (by omega) (Nat.le_of_ble_eq_true rfl)) (Nat.zero_le _) (Nat.zero_le _) d_Md_isFolk_10 ?_
  obtain rfl := h
  exact x_zreturn rfl (xnz (z_Md_in a1 0 ((V 66 0) - 1))) d_Md_isFolk_13 (Nat.le_refl _) (Nat.le_refl _) ⟨rfl, rfl⟩
-- Md_appeals
def f_Md_appeals (a1 : Int32) (a2 : Int32) (a3 : Int32) (a4 : Int32) (V : xV) (L : xL) : Option (Int32 × xV × xL) := (Option.bind (f_Md_hasClause 4 V) fun p1 => (if ¬ p1 = 0 then (Option.bind (f_Md_provinceOf a1 V) fun p4 => (Option.bind (f_Md_hats p4 a2 a3 a4 V L) fun p6 => (Option.bind (f_Md_folkNames a1 a2 a3 a4 p6.2.1) fun p8 => (Option.bind (f_Md_says 4 (x2 p8 82 10 p6.1) p6.2.2) fun p10 => (if (lg_cmp p10.1 0) ≤ 0 then some (0, x2 p8 82 10 p6.1, p10.2) else some (1, x2 p8 82 10 p6.1, p10.2)))))) else some (0, V, L)))
theorem t_Md_appeals (a1 : Int32) (a2 : Int32) (a3 : Int32) (a4 : Int32) (V : xV) (L : xL) (res : Int32 × xV × xL) (h : f_Md_appeals a1 a2 a3 a4 V L = some res) : xRuns (7) M_Md_appeals [.ref 65, .int a1, .int a2, .int a3, .int a4] (SH, V, L) (fun o h' => o = some (.int res.1) ∧ h' = (SH, res.2.1, res.2.2)) := by
  refine xRuns_of (by decide) (Nat.le_of_ble_eq_true rfl) ?_
  unfold f_Md_appeals at h
  show X M_Md_appeals (xRm (7) M_Md_appeals) (xZ M_Md_appeals (fun o h' => o = some (.int res.1) ∧ h' = (SH, res.2.1, res.2.2))) SH V L 0 0 0 [(0, .ref 65), (1, .int a1), (2, .int a2), (3, .int a3), (4, .int a4)] []
  refine x_aload_n 0 d_Md_appeals_0 rfl rfl ?_
  refine x_iconst 4 d_Md_appeals_1 (by decide) ?_
  obtain ⟨p1, e2, h⟩ := xbind h
  refine x_callV0 e_Md_295 sh_65 rfl (t_Md_hasClause 4 V L _ e2) rfl rfl rfl (Nat.le_of_ble_eq_true rfl) (xfit_of (by omega) (Nat.le_of_ble_eq_true rfl)) (Nat.zero_le _) (Nat.zero_le _) d_Md_appeals_2 ?_
  refine x_if_ne 10 d_Md_appeals_5 (by decide) (fun c3 => ?_) (fun c3 => ?_)
  · replace h := xpos c3 h
    refine x_aload_n 0 d_Md_appeals_10 rfl rfl ?_
    refine x_aload_n 0 d_Md_appeals_11 rfl rfl ?_
    refine x_iload_n 1 d_Md_appeals_12 rfl rfl ?_
    obtain ⟨p4, e5, h⟩ := xbind h
    refine x_callV0 e_Md_304 sh_65 rfl (t_Md_provinceOf a1 V L _ e5) rfl rfl rfl (Nat.le_of_ble_eq_true rfl) (xfit_of (by omega) (Nat.le_of_ble_eq_true rfl)) (Nat.zero_le _) (Nat.zero_le _) d_Md_appeals_13 ?_
    refine x_iload_n 2 d_Md_appeals_16 rfl rfl ?_
    refine x_iload_n 3 d_Md_appeals_17 rfl rfl ?_
    refine x_iload 4 d_Md_appeals_18 rfl ?_
    obtain ⟨p6, e7, h⟩ := xbind h
    refine x_callV0 e_Md_315 sh_65 rfl (t_Md_hats p4 a2 a3 a4 V L _ e7) rfl rfl rfl (Nat.le_of_ble_eq_true rfl) (xfit_of (by omega) (Nat.le_of_ble_eq_true rfl)) (Nat.zero_le _) (Nat.zero_le _) d_Md_appeals_20 ?_
    refine x_istore [(5, .int p6.1), (0, .ref 65), (1, .int a1), (2, .int a2), (3, .int a3), (4, .int a4)] d_Md_appeals_23 (Nat.le_of_ble_eq_true rfl) rfl ?_
    refine x_aload_n 1 d_Md_appeals_25 rfl rfl ?_
    refine x_iload_n 2 d_Md_appeals_26 rfl rfl ?_
    refine x_iload_n 3 d_Md_appeals_27 rfl rfl ?_
    refine x_iload_n 4 d_Md_appeals_28 rfl rfl ?_
    refine x_iload 5 d_Md_appeals_29 rfl ?_
    obtain ⟨p8, e9, h⟩ := xbind h
    refine x_callV0v e_Md_307 sh_65 rfl (t_Md_folkNames a1 a2 a3 a4 p6.2.1 p6.2.2 _ e9) rfl rfl rfl (Nat.le_of_ble_eq_true rfl) (xfit_of (by omega) (Nat.le_of_ble_eq_true rfl)) (Nat.zero_le _) (Nat.zero_le _) d_Md_appeals_31 ?_
    refine x_aload_n 1 d_Md_appeals_34 rfl rfl ?_
    refine x_getP (q := 82) f_Md_66 sh_65 rfl d_Md_appeals_35 ?_
    refine x_bipush 10 d_Md_appeals_38 (by decide) ?_
    refine x_iload 0 d_Md_appeals_40 rfl ?_
    refine x_iastoreC 10 sh_82 (by decide) (by decide) d_Md_appeals_42 ?_
    refine x_aload_n 1 d_Md_appeals_43 rfl rfl ?_
    refine x_iconst 4 d_Md_appeals_44 (by decide) ?_
    obtain ⟨p10, e11, h⟩ := xbind h
    refine x_callV0 e_Md_301 sh_65 rfl (t_Md_says 4 (x2 p8 82 10 p6.1) p6.2.2 _ e11) rfl rfl rfl (Nat.le_of_ble_eq_true rfl) (xfit_of (by omega) (Nat.le_of_ble_eq_true rfl)) (Nat.zero_le _) (Nat.zero_le _) d_Md_appeals_45 ?_
    refine x_lconst 0 d_Md_appeals_48 (by decide) ?_
    refine x_lcmp d_Md_appeals_49 ?_
    refine x_if_le 57 d_Md_appeals_50 (by decide) (fun c12 => ?_) (fun c12 => ?_)
    · replace h := xpos c12 h
      refine x_iconst 0 d_Md_appeals_57 (by decide) ?_
      obtain rfl := Option.some.inj h
      exact x_zreturn rfl rfl d_Md_appeals_58 (Nat.le_refl _) (Nat.le_refl _) ⟨rfl, rfl⟩
    · replace h := xneg c12 h
      refine x_iconst 1 d_Md_appeals_53 (by decide) ?_
      refine x_goto 58 d_Md_appeals_54 (by decide) ?_
      obtain rfl := Option.some.inj h
      exact x_zreturn rfl rfl d_Md_appeals_58 (Nat.le_refl _) (Nat.le_refl _) ⟨rfl, rfl⟩
  · replace h := xneg c3 h
    refine x_iconst 0 d_Md_appeals_8 (by decide) ?_
    obtain rfl := Option.some.inj h
    exact x_zreturn rfl rfl d_Md_appeals_9 (Nat.le_refl _) (Nat.le_refl _) ⟨rfl, rfl⟩
-- Md_held
def f_Md_held (a0 : Int64) (a2 : Int32) (a3 : Int32) : Int32 := (if 0 ≤ (lg_cmp a0 a2.toInt64) then (if (lg_cmp a0 a3.toInt64) ≤ 0 then a0.toInt32 else a3) else a2)
theorem t_Md_held (a0 : Int64) (a2 : Int32) (a3 : Int32) (V : xV) (L : xL) (res : Int32) (h : f_Md_held a0 a2 a3 = res) : xRuns (1) M_Md_held [.long a0, .int a2, .int a3] (SH, V, L) (fun o h' => o = some (.int res) ∧ h' = (SH, V, L)) := by
  refine xRuns_of (by decide) (Nat.le_of_ble_eq_true rfl) ?_
  unfold f_Md_held at h
  show X M_Md_held (xRm (1) M_Md_held) (xZ M_Md_held (fun o h' => o = some (.int res) ∧ h' = (SH, V, L))) SH V L 0 0 0 [(0, .long a0), (2, .int a2), (3, .int a3)] []
  refine x_lload_n 0 d_Md_held_0 rfl rfl ?_
  refine x_iload_n 1 d_Md_held_1 rfl rfl ?_
  refine x_i2l d_Md_held_2 ?_
  refine x_lcmp d_Md_held_3 ?_
  refine x_if_ge 11 d_Md_held_4 (by decide) (fun c1 => ?_) (fun c1 => ?_)
  · replace h := xpos c1 h
    refine x_lload_n 0 d_Md_held_11 rfl rfl ?_
    refine x_iload_n 2 d_Md_held_12 rfl rfl ?_
    refine x_i2l d_Md_held_13 ?_
    refine x_lcmp d_Md_held_14 ?_
    refine x_if_le 22 d_Md_held_15 (by decide) (fun c2 => ?_) (fun c2 => ?_)
    · replace h := xpos c2 h
      refine x_lload_n 0 d_Md_held_22 rfl rfl ?_
      refine x_l2i d_Md_held_23 ?_
      obtain rfl := h
      exact x_ireturn rfl d_Md_held_24 (Nat.le_refl _) (Nat.le_refl _) ⟨rfl, rfl⟩
    · replace h := xneg c2 h
      refine x_iload_n 2 d_Md_held_18 rfl rfl ?_
      refine x_goto 24 d_Md_held_19 (by decide) ?_
      obtain rfl := h
      exact x_ireturn rfl d_Md_held_24 (Nat.le_refl _) (Nat.le_refl _) ⟨rfl, rfl⟩
  · replace h := xneg c1 h
    refine x_iload_n 1 d_Md_held_7 rfl rfl ?_
    refine x_goto 24 d_Md_held_8 (by decide) ?_
    obtain rfl := h
    exact x_ireturn rfl d_Md_held_24 (Nat.le_refl _) (Nat.le_refl _) ⟨rfl, rfl⟩
-- Md_fineOf
def f_Md_fineOf (a1 : Int32) (a2 : Int32) (a3 : Int32) (a4 : Int32) (V : xV) (L : xL) : Option (Int32 × xV × xL) := (Option.bind (f_Md_hasClause 3 V) fun p1 => (if p1 = 0 then some (0, V, L) else (Option.bind (f_Md_appeals a1 a2 a3 a4 V L) fun p4 => (if p4.1 = 0 then (Option.bind (f_Md_does a1 a2 a3 a4 p4.2.1 p4.2.2) fun p7 => (if p7.1 = 0 then (Option.bind (f_Md_says 3 (x2 p7.2.1 82 8 0) p7.2.2) fun p10 => some ((f_Md_held p10.1 0 999), x2 p7.2.1 82 8 0, p10.2)) else (Option.bind (f_Md_says 3 (x2 p7.2.1 82 8 1) p7.2.2) fun p13 => some ((f_Md_held p13.1 0 999), x2 p7.2.1 82 8 1, p13.2)))) else some (0, p4.2.1, p4.2.2)))))
theorem t_Md_fineOf (a1 : Int32) (a2 : Int32) (a3 : Int32) (a4 : Int32) (V : xV) (L : xL) (res : Int32 × xV × xL) (h : f_Md_fineOf a1 a2 a3 a4 V L = some res) : xRuns (8) M_Md_fineOf [.ref 65, .int a1, .int a2, .int a3, .int a4] (SH, V, L) (fun o h' => o = some (.int res.1) ∧ h' = (SH, res.2.1, res.2.2)) := by
  refine xRuns_of (by decide) (Nat.le_of_ble_eq_true rfl) ?_
  unfold f_Md_fineOf at h
  show X M_Md_fineOf (xRm (8) M_Md_fineOf) (xZ M_Md_fineOf (fun o h' => o = some (.int res.1) ∧ h' = (SH, res.2.1, res.2.2))) SH V L 0 0 0 [(0, .ref 65), (1, .int a1), (2, .int a2), (3, .int a3), (4, .int a4)] []
  refine x_aload_n 0 d_Md_fineOf_0 rfl rfl ?_
  refine x_iconst 3 d_Md_fineOf_1 (by decide) ?_
  obtain ⟨p1, e2, h⟩ := xbind h
  refine x_callV0 e_Md_295 sh_65 rfl (t_Md_hasClause 3 V L _ e2) rfl rfl rfl (Nat.le_of_ble_eq_true rfl) (xfit_of (by omega) (Nat.le_of_ble_eq_true rfl)) (Nat.zero_le _) (Nat.zero_le _) d_Md_fineOf_2 ?_
  refine x_if_eq 20 d_Md_fineOf_5 (by decide) (fun c3 => ?_) (fun c3 => ?_)
  · replace h := xpos c3 h
    refine x_iconst 0 d_Md_fineOf_20 (by decide) ?_
    obtain rfl := Option.some.inj h
    exact x_ireturn rfl d_Md_fineOf_21 (Nat.le_refl _) (Nat.le_refl _) ⟨rfl, rfl⟩
  · replace h := xneg c3 h
    refine x_aload_n 0 d_Md_fineOf_8 rfl rfl ?_
    refine x_iload_n 1 d_Md_fineOf_9 rfl rfl ?_
    refine x_iload_n 2 d_Md_fineOf_10 rfl rfl ?_
    refine x_iload_n 3 d_Md_fineOf_11 rfl rfl ?_
    refine x_iload 4 d_Md_fineOf_12 rfl ?_
    obtain ⟨p4, e5, h⟩ := xbind h
    refine x_callV0 e_Md_319 sh_65 rfl (t_Md_appeals a1 a2 a3 a4 V L _ e5) rfl rfl rfl (Nat.le_of_ble_eq_true rfl) (xfit_of (by omega) (Nat.le_of_ble_eq_true rfl)) (Nat.zero_le _) (Nat.zero_le _) d_Md_fineOf_14 ?_
    refine x_if_eq 22 d_Md_fineOf_17 (by decide) (fun c6 => ?_) (fun c6 => ?_)
    · replace h := xpos c6 h
      refine x_aload_n 0 d_Md_fineOf_22 rfl rfl ?_
      refine x_iload_n 1 d_Md_fineOf_23 rfl rfl ?_
      refine x_iload_n 2 d_Md_fineOf_24 rfl rfl ?_
      refine x_iload_n 3 d_Md_fineOf_25 rfl rfl ?_
      refine x_iload 4 d_Md_fineOf_26 rfl ?_
      obtain ⟨p7, e8, h⟩ := xbind h
      refine x_callV0 e_Md_311 sh_65 rfl (t_Md_does a1 a2 a3 a4 p4.2.1 p4.2.2 _ e8) rfl rfl rfl (Nat.le_of_ble_eq_true rfl) (xfit_of (by omega) (Nat.le_of_ble_eq_true rfl)) (Nat.zero_le _) (Nat.zero_le _) d_Md_fineOf_28 ?_
      refine x_istore [(5, .int p7.1), (0, .ref 65), (1, .int a1), (2, .int a2), (3, .int a3), (4, .int a4)] d_Md_fineOf_31 (Nat.le_of_ble_eq_true rfl) rfl ?_
      refine x_aload_n 1 d_Md_fineOf_33 rfl rfl ?_
      refine x_getP (q := 82) f_Md_66 sh_65 rfl d_Md_fineOf_34 ?_
      refine x_bipush 8 d_Md_fineOf_37 (by decide) ?_
      refine x_iload 0 d_Md_fineOf_39 rfl ?_
      refine x_if_eq 48 d_Md_fineOf_41 (by decide) (fun c9 => ?_) (fun c9 => ?_)
      · replace h := xpos c9 h
        refine x_iconst 0 d_Md_fineOf_48 (by decide) ?_
        refine x_iastoreC 8 sh_82 (by decide) (by decide) d_Md_fineOf_49 ?_
        refine x_aload_n 1 d_Md_fineOf_50 rfl rfl ?_
        refine x_iconst 3 d_Md_fineOf_51 (by decide) ?_
        obtain ⟨p10, e11, h⟩ := xbind h
        refine x_callV0 e_Md_301 sh_65 rfl (t_Md_says 3 (x2 p7.2.1 82 8 0) p7.2.2 _ e11) rfl rfl rfl (Nat.le_of_ble_eq_true rfl) (xfit_of (by omega) (Nat.le_of_ble_eq_true rfl)) (Nat.zero_le _) (Nat.zero_le _) d_Md_fineOf_52 ?_
        refine x_iconst 0 d_Md_fineOf_55 (by decide) ?_
        refine x_sipush 999 d_Md_fineOf_56 (by decide) ?_
        refine x_callS0 e_Md_322 (t_Md_held p10.1 0 999 (x2 p7.2.1 82 8 0) p10.2 _ rfl) rfl rfl rfl (Nat.le_of_ble_eq_true rfl) (xfit_of (by omega) (Nat.le_of_ble_eq_true rfl)) (Nat.zero_le _) (Nat.zero_le _) d_Md_fineOf_59 ?_
        obtain rfl := Option.some.inj h
        exact x_ireturn rfl d_Md_fineOf_62 (Nat.le_refl _) (Nat.le_refl _) ⟨rfl, rfl⟩
      · replace h := xneg c9 h
        refine x_iconst 1 d_Md_fineOf_44 (by decide) ?_
        refine x_goto 49 d_Md_fineOf_45 (by decide) ?_
        refine x_iastoreC 8 sh_82 (by decide) (by decide) d_Md_fineOf_49 ?_
        refine x_aload_n 1 d_Md_fineOf_50 rfl rfl ?_
        refine x_iconst 3 d_Md_fineOf_51 (by decide) ?_
        obtain ⟨p13, e14, h⟩ := xbind h
        refine x_callV0 e_Md_301 sh_65 rfl (t_Md_says 3 (x2 p7.2.1 82 8 1) p7.2.2 _ e14) rfl rfl rfl (Nat.le_of_ble_eq_true rfl) (xfit_of (by omega) (Nat.le_of_ble_eq_true rfl)) (Nat.zero_le _) (Nat.zero_le _) d_Md_fineOf_52 ?_
        refine x_iconst 0 d_Md_fineOf_55 (by decide) ?_
        refine x_sipush 999 d_Md_fineOf_56 (by decide) ?_
        refine x_callS0 e_Md_322 (t_Md_held p13.1 0 999 (x2 p7.2.1 82 8 1) p13.2 _ rfl) rfl rfl rfl (Nat.le_of_ble_eq_true rfl) (xfit_of (by omega) (Nat.le_of_ble_eq_true rfl)) (Nat.zero_le _) (Nat.zero_le _) d_Md_fineOf_59 ?_
        obtain rfl := Option.some.inj h
        exact x_ireturn rfl d_Md_fineOf_62 (Nat.le_refl _) (Nat.le_refl _) ⟨rfl, rfl⟩
    · replace h := xneg c6 h
      refine x_iconst 0 d_Md_fineOf_20 (by decide) ?_
      obtain rfl := Option.some.inj h
      exact x_ireturn rfl d_Md_fineOf_21 (Nat.le_refl _) (Nat.le_refl _) ⟨rfl, rfl⟩
-- Md_on
def f_Md_on (a1 : Int32) (a2 : Int32) (a3 : Int32) (V : xV) (L : xL) : Option (Int32 × xV × xL) := (if (f_Md_isFolk a1 V) = 0 then some ((-1), V, L) else (if (f_Md_isDay a2) = 0 then some ((-1), V, L) else (if ¬ (f_Md_in a3 0 2) = 0 then (if xI (10 + a2) 270 = true then (Option.bind (f_Md_provinceOf a1 V) fun p8 => (Option.bind (f_Md_decreeOf a2 p8 V) fun p10 => (if ¬ a3 = 1 then (if ¬ a3 = 0 then (Option.bind (f_Md_appeals a1 a2 (V 66 (10 + a2).toNatClampNeg) p10 V L) fun p14 => (if p14.1 = 0 then some (0, p14.2.1, p14.2.2) else some (1, p14.2.1, p14.2.2))) else (Option.bind (f_Md_does a1 a2 (V 66 (10 + a2).toNatClampNeg) p10 V L) fun p17 => (if p17.1 = 0 then some (0, p17.2.1, p17.2.2) else some (1, p17.2.1, p17.2.2)))) else (Option.bind (f_Md_fineOf a1 a2 (V 66 (10 + a2).toNatClampNeg) p10 V L) fun p20 => some (p20.1, p20.2.1, p20.2.2))))) else none) else some ((-1), V, L))))
theorem t_Md_on (a1 : Int32) (a2 : Int32) (a3 : Int32) (V : xV) (L : xL) (res : Int32 × xV × xL) (h : f_Md_on a1 a2 a3 V L = some res) : xRuns (9) M_Md_on [.ref 65, .int a1, .int a2, .int a3] (SH, V, L) (fun o h' => o = some (.int res.1) ∧ h' = (SH, res.2.1, res.2.2)) := by
  refine xRuns_of (by decide) (Nat.le_of_ble_eq_true rfl) ?_
  unfold f_Md_on at h
  show X M_Md_on (xRm (9) M_Md_on) (xZ M_Md_on (fun o h' => o = some (.int res.1) ∧ h' = (SH, res.2.1, res.2.2))) SH V L 0 0 0 [(0, .ref 65), (1, .int a1), (2, .int a2), (3, .int a3)] []
  refine x_aload_n 0 d_Md_on_0 rfl rfl ?_
  refine x_iload_n 1 d_Md_on_1 rfl rfl ?_
  refine x_callV0 e_Md_333 sh_65 rfl (t_Md_isFolk a1 V L _ rfl) rfl rfl rfl (Nat.le_of_ble_eq_true rfl) (xfit_of (by omega) (Nat.le_of_ble_eq_true rfl)) (Nat.zero_le _) (Nat.zero_le _) d_Md_on_2 ?_
  refine x_if_eq 24 d_Md_on_5 (by decide) (fun c2 => ?_) (fun c2 => ?_)
  · replace h := xpos c2 h
    refine x_iconst (-1) d_Md_on_24 (by decide) ?_
    obtain rfl := Option.some.inj h
    exact x_ireturn rfl d_Md_on_25 (Nat.le_refl _) (Nat.le_refl _) ⟨rfl, rfl⟩
  · replace h := xneg c2 h
    refine x_iload_n 2 d_Md_on_8 rfl rfl ?_
    refine x_callS0 e_Md_97 (t_Md_isDay a2 V L _ rfl) rfl rfl rfl (Nat.le_of_ble_eq_true rfl) (xfit_of (by omega) (Nat.le_of_ble_eq_true rfl)) (Nat.zero_le _) (Nat.zero_le _) d_Md_on_9 ?_
    refine x_if_eq 24 d_Md_on_12 (by decide) (fun c4 => ?_) (fun c4 => ?_)
    · replace h := xpos c4 h
      refine x_iconst (-1) d_Md_on_24 (by decide) ?_
      obtain rfl := Option.some.inj h
      exact x_ireturn rfl d_Md_on_25 (Nat.le_refl _) (Nat.le_refl _) ⟨rfl, rfl⟩
    · replace h := xneg c4 h
      refine x_iload_n 3 d_Md_on_15 rfl rfl ?_
      refine x_iconst 0 d_Md_on_16 (by decide) ?_
      refine x_iconst 2 d_Md_on_17 (by decide) ?_
      refine x_callS0 e_Md_89 (t_Md_in a3 0 2 V L _ rfl) rfl rfl rfl (Nat.le_of_ble_eq_true rfl) (xfit_of (by omega) (Nat.le_of_ble_eq_true rfl)) (Nat.zero_le _) (Nat.zero_le _) d_Md_on_18 ?_
      refine x_if_ne 26 d_Md_on_21 (by decide) (fun c6 => ?_) (fun c6 => ?_)
      · replace h := xpos c6 h
        refine x_aload_n 0 d_Md_on_26 rfl rfl ?_
        refine x_getP (q := 66) f_Md_7 sh_65 rfl d_Md_on_27 ?_
        refine x_bipush 10 d_Md_on_30 (by decide) ?_
        refine x_iload_n 2 d_Md_on_32 rfl rfl ?_
        refine x_iadd d_Md_on_33 ?_
        obtain ⟨c7, h⟩ := xguard h
        refine x_iaload sh_66 c7 d_Md_on_34 ?_
        refine x_istore [(4, .int (V 66 (10 + a2).toNatClampNeg)), (0, .ref 65), (1, .int a1), (2, .int a2), (3, .int a3)] d_Md_on_35 (Nat.le_of_ble_eq_true rfl) rfl ?_
        refine x_aload_n 1 d_Md_on_37 rfl rfl ?_
        refine x_iload_n 3 d_Md_on_38 rfl rfl ?_
        refine x_aload_n 1 d_Md_on_39 rfl rfl ?_
        refine x_iload_n 2 d_Md_on_40 rfl rfl ?_
        obtain ⟨p8, e9, h⟩ := xbind h
        refine x_callV0 e_Md_304 sh_65 rfl (t_Md_provinceOf a1 V L _ e9) rfl rfl rfl (Nat.le_of_ble_eq_true rfl) (xfit_of (by omega) (Nat.le_of_ble_eq_true rfl)) (Nat.zero_le _) (Nat.zero_le _) d_Md_on_41 ?_
        obtain ⟨p10, e11, h⟩ := xbind h
        refine x_callV0 e_Md_291 sh_65 rfl (t_Md_decreeOf a2 p8 V L _ e11) rfl rfl rfl (Nat.le_of_ble_eq_true rfl) (xfit_of (by omega) (Nat.le_of_ble_eq_true rfl)) (Nat.zero_le _) (Nat.zero_le _) d_Md_on_44 ?_
        refine x_istore [(5, .int p10), (4, .int (V 66 (10 + a2).toNatClampNeg)), (0, .ref 65), (1, .int a1), (2, .int a2), (3, .int a3)] d_Md_on_47 (Nat.le_of_ble_eq_true rfl) rfl ?_
        refine x_iload_n 5 d_Md_on_49 rfl rfl ?_
        refine x_iconst 1 d_Md_on_50 (by decide) ?_
        refine x_icmp_ne 65 d_Md_on_51 (by decide) (fun c12 => ?_) (fun c12 => ?_)
        · replace h := xpos c12 h
          refine x_iload_n 5 d_Md_on_65 rfl rfl ?_
          refine x_if_ne 82 d_Md_on_66 (by decide) (fun c13 => ?_) (fun c13 => ?_)
          · replace h := xpos c13 h
            refine x_aload_n 2 d_Md_on_82 rfl rfl ?_
            refine x_iload_n 3 d_Md_on_83 rfl rfl ?_
            refine x_iload_n 4 d_Md_on_84 rfl rfl ?_
            refine x_iload 1 d_Md_on_85 rfl ?_
            refine x_iload 0 d_Md_on_87 rfl ?_
            obtain ⟨p14, e15, h⟩ := xbind h
            refine x_callV0 e_Md_319 sh_65 rfl (t_Md_appeals a1 a2 (V 66 (10 + a2).toNatClampNeg) p10 V L _ e15) rfl rfl rfl (Nat.le_of_ble_eq_true rfl) (xfit_of (by omega) (Nat.le_of_ble_eq_true rfl)) (Nat.zero_le _) (Nat.zero_le _) d_Md_on_89 ?_
            refine x_istore [(6, .int p14.1), (5, .int p10), (4, .int (V 66 (10 + a2).toNatClampNeg)), (0, .ref 65), (1, .int a1), (2, .int a2), (3, .int a3)] d_Md_on_92 (Nat.le_of_ble_eq_true rfl) rfl ?_
            refine x_iload 0 d_Md_on_94 rfl ?_
            refine x_if_eq 103 d_Md_on_96 (by decide) (fun c16 => ?_) (fun c16 => ?_)
            · replace h := xpos c16 h
              refine x_iconst 0 d_Md_on_103 (by decide) ?_
              obtain rfl := Option.some.inj h
              exact x_ireturn rfl d_Md_on_104 (Nat.le_refl _) (Nat.le_refl _) ⟨rfl, rfl⟩
            · replace h := xneg c16 h
              refine x_iconst 1 d_Md_on_99 (by decide) ?_
              refine x_goto 104 d_Md_on_100 (by decide) ?_
              obtain rfl := Option.some.inj h
              exact x_ireturn rfl d_Md_on_104 (Nat.le_refl _) (Nat.le_refl _) ⟨rfl, rfl⟩
          · replace h := xneg c13 h
            refine x_aload_n 2 d_Md_on_69 rfl rfl ?_
            refine x_iload_n 3 d_Md_on_70 rfl rfl ?_
            refine x_iload_n 4 d_Md_on_71 rfl rfl ?_
            refine x_iload 1 d_Md_on_72 rfl ?_
            refine x_iload 0 d_Md_on_74 rfl ?_
            obtain ⟨p17, e18, h⟩ := xbind h
            refine x_callV0 e_Md_311 sh_65 rfl (t_Md_does a1 a2 (V 66 (10 + a2).toNatClampNeg) p10 V L _ e18) rfl rfl rfl (Nat.le_of_ble_eq_true rfl) (xfit_of (by omega) (Nat.le_of_ble_eq_true rfl)) (Nat.zero_le _) (Nat.zero_le _) d_Md_on_76 ?_
            refine x_goto 92 d_Md_on_79 (by decide) ?_
            refine x_istore [(6, .int p17.1), (5, .int p10), (4, .int (V 66 (10 + a2).toNatClampNeg)), (0, .ref 65), (1, .int a1), (2, .int a2), (3, .int a3)] d_Md_on_92 (Nat.le_of_ble_eq_true rfl) rfl ?_
            refine x_iload 0 d_Md_on_94 rfl ?_
            refine x_if_eq 103 d_Md_on_96 (by decide) (fun c19 => ?_) (fun c19 => ?_)
            · replace h := xpos c19 h
              refine x_iconst 0 d_Md_on_103 (by decide) ?_
              obtain rfl := Option.some.inj h
              exact x_ireturn rfl d_Md_on_104 (Nat.le_refl _) (Nat.le_refl _) ⟨rfl, rfl⟩
            · replace h := xneg c19 h
              refine x_iconst 1 d_Md_on_99 (by decide) ?_
              refine x_goto 104 d_Md_on_100 (by decide) ?_
              obtain rfl := Option.some.inj h
              exact x_ireturn rfl d_Md_on_104 (Nat.le_refl _) (Nat.le_refl _) ⟨rfl, rfl⟩
        · replace h := xneg c12 h
          refine x_aload_n 2 d_Md_on_54 rfl rfl ?_
          refine x_iload_n 3 d_Md_on_55 rfl rfl ?_
          refine x_iload_n 4 d_Md_on_56 rfl rfl ?_
          refine x_iload 1 d_Md_on_57 rfl ?_
          refine x_iload 0 d_Md_on_59 rfl ?_
          obtain ⟨p20, e21, h⟩ := xbind h
          refine x_callV0 e_Md_326 sh_65 rfl (t_Md_fineOf a1 a2 (V 66 (10 + a2).toNatClampNeg) p10 V L _ e21) rfl rfl rfl (Nat.le_of_ble_eq_true rfl) (xfit_of (by omega) (Nat.le_of_ble_eq_true rfl)) (Nat.zero_le _) (Nat.zero_le _) d_Md_on_61 ?_
          obtain rfl := Option.some.inj h
          exact x_ireturn rfl d_Md_on_64 (Nat.le_refl _) (Nat.le_refl _) ⟨rfl, rfl⟩
      · replace h := xneg c6 h
        refine x_iconst (-1) d_Md_on_24 (by decide) ?_
        obtain rfl := Option.some.inj h
        exact x_ireturn rfl d_Md_on_25 (Nat.le_refl _) (Nat.le_refl _) ⟨rfl, rfl⟩
-- Md_gainOf
def b_Md_gainOf_65 (v6 : Int32) (s0 : Int32) (s1 : Int32) (V : xV) (L : xL) : Option (Int32 × xV × xL) := (if xI s1 13 = true then (Option.bind (f_Md_hasClause 2 (x2 V 82 s1.toNatClampNeg s0)) fun p10 => (if p10 = 0 then some (0 - v6, x2 V 82 s1.toNatClampNeg s0, L) else (Option.bind (f_Md_says 2 (x2 V 82 s1.toNatClampNeg s0) L) fun p13 => some ((f_Md_held p13.1 (-9999) 9999) - v6, x2 V 82 s1.toNatClampNeg s0, p13.2)))) else none)
theorem tb_Md_gainOf_65  (res : Int32 × xV × xL)  (v6 : Int32) (s0 : Int32) (s1 : Int32) (V : xV) (L : xL) (h : b_Md_gainOf_65 v6 s0 s1 V L = some res) : X M_Md_gainOf (xRm (9) M_Md_gainOf) (xZ M_Md_gainOf (fun o h' => o = some (.int res.1) ∧ h' = (SH, res.2.1, res.2.2))) SH V L 0 0 65 [(0, .ref 65), (6, .int v6)] [.int s0, .int s1, .ref 82] := by
  unfold b_Md_gainOf_65 at h
  obtain ⟨c9, h⟩ := xguard h
  refine x_iastore sh_82 c9 d_Md_gainOf_65 ?_
  refine x_aload_n 0 d_Md_gainOf_66 rfl rfl ?_
  refine x_iconst 2 d_Md_gainOf_67 (by decide) ?_
  obtain ⟨p10, e11, h⟩ := xbind h
  refine x_callV0 e_Md_295 sh_65 rfl (t_Md_hasClause 2 (x2 V 82 s1.toNatClampNeg s0) L _ e11) rfl rfl rfl (Nat.le_of_ble_eq_true rfl) (xfit_of (by omega) (Nat.le_of_ble_eq_true rfl)) (Nat.zero_le _) (Nat.zero_le _) d_Md_gainOf_68 ?_
  refine x_if_eq 91 d_Md_gainOf_71 (by decide) (fun c12 => ?_) (fun c12 => ?_)
  · replace h := xpos c12 h
    refine x_iconst 0 d_Md_gainOf_91 (by decide) ?_
    refine x_iload 1 d_Md_gainOf_92 rfl ?_
    refine x_isub d_Md_gainOf_94 ?_
    obtain rfl := Option.some.inj h
    exact x_ireturn rfl d_Md_gainOf_95 (Nat.le_refl _) (Nat.le_refl _) ⟨rfl, rfl⟩
  · replace h := xneg c12 h
    refine x_aload_n 0 d_Md_gainOf_74 rfl rfl ?_
    refine x_iconst 2 d_Md_gainOf_75 (by decide) ?_
    obtain ⟨p13, e14, h⟩ := xbind h
    refine x_callV0 e_Md_301 sh_65 rfl (t_Md_says 2 (x2 V 82 s1.toNatClampNeg s0) L _ e14) rfl rfl rfl (Nat.le_of_ble_eq_true rfl) (xfit_of (by omega) (Nat.le_of_ble_eq_true rfl)) (Nat.zero_le _) (Nat.zero_le _) d_Md_gainOf_76 ?_
    refine x_sipush (-9999) d_Md_gainOf_79 (by decide) ?_
    refine x_sipush 9999 d_Md_gainOf_82 (by decide) ?_
    refine x_callS0 e_Md_322 (t_Md_held p13.1 (-9999) 9999 (x2 V 82 s1.toNatClampNeg s0) p13.2 _ rfl) rfl rfl rfl (Nat.le_of_ble_eq_true rfl) (xfit_of (by omega) (Nat.le_of_ble_eq_true rfl)) (Nat.zero_le _) (Nat.zero_le _) d_Md_gainOf_85 ?_
    refine x_goto 92 d_Md_gainOf_88 (by decide) ?_
    refine x_iload 1 d_Md_gainOf_92 rfl ?_
    refine x_isub d_Md_gainOf_94 ?_
    obtain rfl := Option.some.inj h
    exact x_ireturn rfl d_Md_gainOf_95 (Nat.le_refl _) (Nat.le_refl _) ⟨rfl, rfl⟩
def b_Md_gainOf_38 (v3 : Int32) (v4 : Int32) (v5 : Int32) (v6 : Int32) (s0 : Int32) (s1 : Int32) (V : xV) (L : xL) : Option (Int32 × xV × xL) := (if xI s1 13 = true then (if v5 = 0 then (if v3 < 5 then b_Md_gainOf_65 v6 0 9 (x2 V 82 s1.toNatClampNeg s0) L else b_Md_gainOf_65 v6 1 9 (x2 V 82 s1.toNatClampNeg s0) L) else b_Md_gainOf_65 v6 v4 9 (x2 V 82 s1.toNatClampNeg s0) L) else none)
theorem tb_Md_gainOf_38  (res : Int32 × xV × xL)  (v3 : Int32) (v4 : Int32) (v5 : Int32) (v6 : Int32) (s0 : Int32) (s1 : Int32) (V : xV) (L : xL) (h : b_Md_gainOf_38 v3 v4 v5 v6 s0 s1 V L = some res) : X M_Md_gainOf (xRm (9) M_Md_gainOf) (xZ M_Md_gainOf (fun o h' => o = some (.int res.1) ∧ h' = (SH, res.2.1, res.2.2))) SH V L 0 0 38 [(0, .ref 65), (3, .int v3), (4, .int v4), (5, .int v5), (6, .int v6)] [.int s0, .int s1, .ref 82] := by
  unfold b_Md_gainOf_38 at h
  obtain ⟨c6, h⟩ := xguard h
  refine x_iastore sh_82 c6 d_Md_gainOf_38 ?_
  refine x_aload_n 0 d_Md_gainOf_39 rfl rfl ?_
  refine x_getP (q := 82) f_Md_66 sh_65 rfl d_Md_gainOf_40 ?_
  refine x_bipush 9 d_Md_gainOf_43 (by decide) ?_
  refine x_iload 3 d_Md_gainOf_45 rfl ?_
  refine x_if_eq 55 d_Md_gainOf_47 (by decide) (fun c7 => ?_) (fun c7 => ?_)
  · replace h := xpos c7 h
    refine x_iload_n 1 d_Md_gainOf_55 rfl rfl ?_
    refine x_iconst 5 d_Md_gainOf_56 (by decide) ?_
    refine x_icmp_lt 64 d_Md_gainOf_57 (by decide) (fun c8 => ?_) (fun c8 => ?_)
    · replace h := xpos c8 h
      refine x_iconst 0 d_Md_gainOf_64 (by decide) ?_
      refine x_pick [0, 4] rfl ?_
      exact tb_Md_gainOf_65 res v6 0 9 (x2 V 82 s1.toNatClampNeg s0) L h
    · replace h := xneg c8 h
      refine x_iconst 1 d_Md_gainOf_60 (by decide) ?_
      refine x_goto 65 d_Md_gainOf_61 (by decide) ?_
      refine x_pick [0, 4] rfl ?_
      exact tb_Md_gainOf_65 res v6 1 9 (x2 V 82 s1.toNatClampNeg s0) L h
  · replace h := xneg c7 h
    refine x_iload 2 d_Md_gainOf_50 rfl ?_
    refine x_goto 65 d_Md_gainOf_52 (by decide) ?_
    refine x_pick [0, 4] rfl ?_
    exact tb_Md_gainOf_65 res v6 v4 9 (x2 V 82 s1.toNatClampNeg s0) L h
def f_Md_gainOf (a1 : Int32) (a2 : Int32) (a3 : Int32) (a4 : Int32) (a5 : Int32) (V : xV) (L : xL) : Option (Int32 × xV × xL) := (Option.bind (f_Md_fineOf a1 a2 a3 a4 V L) fun p1 => (Option.bind (f_Md_does a1 a2 a3 a4 p1.2.1 p1.2.2) fun p3 => (if p3.1 = 0 then b_Md_gainOf_38 a3 a4 a5 p1.1 0 8 p3.2.1 p3.2.2 else b_Md_gainOf_38 a3 a4 a5 p1.1 1 8 p3.2.1 p3.2.2)))
theorem t_Md_gainOf (a1 : Int32) (a2 : Int32) (a3 : Int32) (a4 : Int32) (a5 : Int32) (V : xV) (L : xL) (res : Int32 × xV × xL) (h : f_Md_gainOf a1 a2 a3 a4 a5 V L = some res) : xRuns (9) M_Md_gainOf [.ref 65, .int a1, .int a2, .int a3, .int a4, .int a5] (SH, V, L) (fun o h' => o = some (.int res.1) ∧ h' = (SH, res.2.1, res.2.2)) := by
  refine xRuns_of (by decide) (Nat.le_of_ble_eq_true rfl) ?_
  unfold f_Md_gainOf at h
  show X M_Md_gainOf (xRm (9) M_Md_gainOf) (xZ M_Md_gainOf (fun o h' => o = some (.int res.1) ∧ h' = (SH, res.2.1, res.2.2))) SH V L 0 0 0 [(0, .ref 65), (1, .int a1), (2, .int a2), (3, .int a3), (4, .int a4), (5, .int a5)] []
  refine x_aload_n 0 d_Md_gainOf_0 rfl rfl ?_
  refine x_iload_n 1 d_Md_gainOf_1 rfl rfl ?_
  refine x_iload_n 2 d_Md_gainOf_2 rfl rfl ?_
  refine x_iload_n 3 d_Md_gainOf_3 rfl rfl ?_
  refine x_iload 4 d_Md_gainOf_4 rfl ?_
  obtain ⟨p1, e2, h⟩ := xbind h
  refine x_callV0 e_Md_326 sh_65 rfl (t_Md_fineOf a1 a2 a3 a4 V L _ e2) rfl rfl rfl (Nat.le_of_ble_eq_true rfl) (xfit_of (by omega) (Nat.le_of_ble_eq_true rfl)) (Nat.zero_le _) (Nat.zero_le _) d_Md_gainOf_6 ?_
  refine x_istore [(6, .int p1.1), (0, .ref 65), (1, .int a1), (2, .int a2), (3, .int a3), (4, .int a4), (5, .int a5)] d_Md_gainOf_9 (Nat.le_of_ble_eq_true rfl) rfl ?_
  refine x_aload_n 1 d_Md_gainOf_11 rfl rfl ?_
  refine x_iload_n 2 d_Md_gainOf_12 rfl rfl ?_
  refine x_iload_n 3 d_Md_gainOf_13 rfl rfl ?_
  refine x_iload_n 4 d_Md_gainOf_14 rfl rfl ?_
  refine x_iload 5 d_Md_gainOf_15 rfl ?_
  obtain ⟨p3, e4, h⟩ := xbind h
  refine x_callV0 e_Md_311 sh_65 rfl (t_Md_does a1 a2 a3 a4 p1.2.1 p1.2.2 _ e4) rfl rfl rfl (Nat.le_of_ble_eq_true rfl) (xfit_of (by omega) (Nat.le_of_ble_eq_true rfl)) (Nat.zero_le _) (Nat.zero_le _) d_Md_gainOf_17 ?_
  refine x_istore [(7, .int p3.1), (6, .int p1.1), (0, .ref 65), (1, .int a1), (2, .int a2), (3, .int a3), (4, .int a4), (5, .int a5)] d_Md_gainOf_20 (Nat.le_of_ble_eq_true rfl) rfl ?_
  refine x_aload_n 2 d_Md_gainOf_22 rfl rfl ?_
  refine x_getP (q := 82) f_Md_66 sh_65 rfl d_Md_gainOf_23 ?_
  refine x_bipush 8 d_Md_gainOf_26 (by decide) ?_
  refine x_iload 0 d_Md_gainOf_28 rfl ?_
  refine x_if_eq 37 d_Md_gainOf_30 (by decide) (fun c5 => ?_) (fun c5 => ?_)
  · replace h := xpos c5 h
    refine x_iconst 0 d_Md_gainOf_37 (by decide) ?_
    refine x_pick [2, 5, 6, 7, 1] rfl ?_
    exact tb_Md_gainOf_38 res a3 a4 a5 p1.1 0 8 p3.2.1 p3.2.2 h
  · replace h := xneg c5 h
    refine x_iconst 1 d_Md_gainOf_33 (by decide) ?_
    refine x_goto 38 d_Md_gainOf_34 (by decide) ?_
    refine x_pick [2, 5, 6, 7, 1] rfl ?_
    exact tb_Md_gainOf_38 res a3 a4 a5 p1.1 1 8 p3.2.1 p3.2.2 h
-- Md_gainAsIs
def f_Md_gainAsIs (a1 : Int32) (a2 : Int32) (a3 : Int32) (V : xV) (L : xL) : Option (Int32 × xV × xL) := (if xI (10 + a2) 270 = true then (Option.bind (f_Md_provinceOf a1 V) fun p2 => (Option.bind (f_Md_decreeOf a2 p2 V) fun p4 => (Option.bind (f_Md_gainOf a1 a2 (V 66 (10 + a2).toNatClampNeg) p4 a3 V L) fun p6 => some (p6.1, p6.2.1, p6.2.2)))) else none)
theorem t_Md_gainAsIs (a1 : Int32) (a2 : Int32) (a3 : Int32) (V : xV) (L : xL) (res : Int32 × xV × xL) (h : f_Md_gainAsIs a1 a2 a3 V L = some res) : xRuns (10) M_Md_gainAsIs [.ref 65, .int a1, .int a2, .int a3] (SH, V, L) (fun o h' => o = some (.int res.1) ∧ h' = (SH, res.2.1, res.2.2)) := by
  refine xRuns_of (by decide) (Nat.le_of_ble_eq_true rfl) ?_
  unfold f_Md_gainAsIs at h
  show X M_Md_gainAsIs (xRm (10) M_Md_gainAsIs) (xZ M_Md_gainAsIs (fun o h' => o = some (.int res.1) ∧ h' = (SH, res.2.1, res.2.2))) SH V L 0 0 0 [(0, .ref 65), (1, .int a1), (2, .int a2), (3, .int a3)] []
  refine x_aload_n 0 d_Md_gainAsIs_0 rfl rfl ?_
  refine x_iload_n 1 d_Md_gainAsIs_1 rfl rfl ?_
  refine x_iload_n 2 d_Md_gainAsIs_2 rfl rfl ?_
  refine x_aload_n 0 d_Md_gainAsIs_3 rfl rfl ?_
  refine x_getP (q := 66) f_Md_7 sh_65 rfl d_Md_gainAsIs_4 ?_
  refine x_bipush 10 d_Md_gainAsIs_7 (by decide) ?_
  refine x_iload_n 2 d_Md_gainAsIs_9 rfl rfl ?_
  refine x_iadd d_Md_gainAsIs_10 ?_
  obtain ⟨c1, h⟩ := xguard h
  refine x_iaload sh_66 c1 d_Md_gainAsIs_11 ?_
  refine x_aload_n 0 d_Md_gainAsIs_12 rfl rfl ?_
  refine x_iload_n 2 d_Md_gainAsIs_13 rfl rfl ?_
  refine x_aload_n 0 d_Md_gainAsIs_14 rfl rfl ?_
  refine x_iload_n 1 d_Md_gainAsIs_15 rfl rfl ?_
  obtain ⟨p2, e3, h⟩ := xbind h
  refine x_callV0 e_Md_304 sh_65 rfl (t_Md_provinceOf a1 V L _ e3) rfl rfl rfl (Nat.le_of_ble_eq_true rfl) (xfit_of (by omega) (Nat.le_of_ble_eq_true rfl)) (Nat.zero_le _) (Nat.zero_le _) d_Md_gainAsIs_16 ?_
  obtain ⟨p4, e5, h⟩ := xbind h
  refine x_callV0 e_Md_291 sh_65 rfl (t_Md_decreeOf a2 p2 V L _ e5) rfl rfl rfl (Nat.le_of_ble_eq_true rfl) (xfit_of (by omega) (Nat.le_of_ble_eq_true rfl)) (Nat.zero_le _) (Nat.zero_le _) d_Md_gainAsIs_19 ?_
  refine x_iload_n 3 d_Md_gainAsIs_22 rfl rfl ?_
  obtain ⟨p6, e7, h⟩ := xbind h
  refine x_callV0 e_Md_329 sh_65 rfl (t_Md_gainOf a1 a2 (V 66 (10 + a2).toNatClampNeg) p4 a3 V L _ e7) rfl rfl rfl (Nat.le_of_ble_eq_true rfl) (xfit_of (by omega) (Nat.le_of_ble_eq_true rfl)) (Nat.zero_le _) (Nat.zero_le _) d_Md_gainAsIs_23 ?_
  obtain rfl := Option.some.inj h
  exact x_ireturn rfl d_Md_gainAsIs_26 (Nat.le_refl _) (Nat.le_refl _) ⟨rfl, rfl⟩
-- Md_gain
def f_Md_gain (a1 : Int32) (a2 : Int32) (a3 : Int32) (V : xV) (L : xL) : Option (Int32 × xV × xL) := (if (f_Md_isFolk a1 V) = 0 then some ((-100000), V, L) else (if (f_Md_isDay a2) = 0 then some ((-100000), V, L) else (Option.bind (f_Md_gainAsIs a1 a2 a3 V L) fun p5 => some (p5.1, p5.2.1, p5.2.2))))
theorem t_Md_gain (a1 : Int32) (a2 : Int32) (a3 : Int32) (V : xV) (L : xL) (res : Int32 × xV × xL) (h : f_Md_gain a1 a2 a3 V L = some res) : xRuns (11) M_Md_gain [.ref 65, .int a1, .int a2, .int a3] (SH, V, L) (fun o h' => o = some (.int res.1) ∧ h' = (SH, res.2.1, res.2.2)) := by
  refine xRuns_of (by decide) (Nat.le_of_ble_eq_true rfl) ?_
  unfold f_Md_gain at h
  show X M_Md_gain (xRm (11) M_Md_gain) (xZ M_Md_gain (fun o h' => o = some (.int res.1) ∧ h' = (SH, res.2.1, res.2.2))) SH V L 0 0 0 [(0, .ref 65), (1, .int a1), (2, .int a2), (3, .int a3)] []
  refine x_aload_n 0 d_Md_gain_0 rfl rfl ?_
  refine x_iload_n 1 d_Md_gain_1 rfl rfl ?_
  refine x_callV0 e_Md_333 sh_65 rfl (t_Md_isFolk a1 V L _ rfl) rfl rfl rfl (Nat.le_of_ble_eq_true rfl) (xfit_of (by omega) (Nat.le_of_ble_eq_true rfl)) (Nat.zero_le _) (Nat.zero_le _) d_Md_gain_2 ?_
  refine x_if_eq 25 d_Md_gain_5 (by decide) (fun c2 => ?_) (fun c2 => ?_)
  · replace h := xpos c2 h
    refine x_ldcw c_Md_340 d_Md_gain_25 ?_
    obtain rfl := Option.some.inj h
    exact x_ireturn rfl d_Md_gain_28 (Nat.le_refl _) (Nat.le_refl _) ⟨rfl, rfl⟩
  · replace h := xneg c2 h
    refine x_iload_n 2 d_Md_gain_8 rfl rfl ?_
    refine x_callS0 e_Md_97 (t_Md_isDay a2 V L _ rfl) rfl rfl rfl (Nat.le_of_ble_eq_true rfl) (xfit_of (by omega) (Nat.le_of_ble_eq_true rfl)) (Nat.zero_le _) (Nat.zero_le _) d_Md_gain_9 ?_
    refine x_if_eq 25 d_Md_gain_12 (by decide) (fun c4 => ?_) (fun c4 => ?_)
    · replace h := xpos c4 h
      refine x_ldcw c_Md_340 d_Md_gain_25 ?_
      obtain rfl := Option.some.inj h
      exact x_ireturn rfl d_Md_gain_28 (Nat.le_refl _) (Nat.le_refl _) ⟨rfl, rfl⟩
    · replace h := xneg c4 h
      refine x_aload_n 0 d_Md_gain_15 rfl rfl ?_
      refine x_iload_n 1 d_Md_gain_16 rfl rfl ?_
      refine x_iload_n 2 d_Md_gain_17 rfl rfl ?_
      refine x_iload_n 3 d_Md_gain_18 rfl rfl ?_
      obtain ⟨p5, e6, h⟩ := xbind h
      refine x_callV0 e_Md_336 sh_65 rfl (t_Md_gainAsIs a1 a2 a3 V L _ e6) rfl rfl rfl (Nat.le_of_ble_eq_true rfl) (xfit_of (by omega) (Nat.le_of_ble_eq_true rfl)) (Nat.zero_le _) (Nat.zero_le _) d_Md_gain_19 ?_
      refine x_goto 28 d_Md_gain_22 (by decide) ?_
      obtain rfl := Option.some.inj h
      exact x_ireturn rfl d_Md_gain_28 (Nat.le_refl _) (Nat.le_refl _) ⟨rfl, rfl⟩
-- Md_sumOf
def b_Md_sumOf_6 (k6 : Int32 → Int32 → Int32 → Int32 → Int32 → xV → xL → Option (Int32 × xV × xL)) (v1 : Int32) (v3 : Int32) (v4 : Int32) (v5 : Int32) (v6 : Int32) (V : xV) (L : xL) : Option (Int32 × xV × xL) := (if v3 < v6 then some (v5, V, L) else (Option.bind (f_Md_gainAsIs v1 v6 v4 V L) fun p2 => k6 v1 v3 v4 (v5 + p2.1) (v6 + 1) p2.2.1 p2.2.2))
theorem tb_Md_sumOf_6 (k6 : Int32 → Int32 → Int32 → Int32 → Int32 → xV → xL → Option (Int32 × xV × xL)) (res : Int32 × xV × xL) (hk6 : ∀ (v1 : Int32) (v3 : Int32) (v4 : Int32) (v5 : Int32) (v6 : Int32) (V : xV) (L : xL), k6 v1 v3 v4 v5 v6 V L = some res → X M_Md_sumOf (xRm (11) M_Md_sumOf) (xZ M_Md_sumOf (fun o h' => o = some (.int res.1) ∧ h' = (SH, res.2.1, res.2.2))) SH V L 0 0 6 [(0, .ref 65), (1, .int v1), (3, .int v3), (4, .int v4), (5, .int v5), (6, .int v6)] []) (v1 : Int32) (v3 : Int32) (v4 : Int32) (v5 : Int32) (v6 : Int32) (V : xV) (L : xL) (h : b_Md_sumOf_6 k6 v1 v3 v4 v5 v6 V L = some res) : X M_Md_sumOf (xRm (11) M_Md_sumOf) (xZ M_Md_sumOf (fun o h' => o = some (.int res.1) ∧ h' = (SH, res.2.1, res.2.2))) SH V L 0 0 6 [(0, .ref 65), (1, .int v1), (3, .int v3), (4, .int v4), (5, .int v5), (6, .int v6)] [] := by
  unfold b_Md_sumOf_6 at h
  refine x_iload 5 d_Md_sumOf_6 rfl ?_
  refine x_iload_n 2 d_Md_sumOf_8 rfl rfl ?_
  refine x_icmp_gt 32 d_Md_sumOf_9 (by decide) (fun c1 => ?_) (fun c1 => ?_)
  · replace h := xpos c1 h
    refine x_iload 4 d_Md_sumOf_32 rfl ?_
    obtain rfl := Option.some.inj h
    exact x_ireturn rfl d_Md_sumOf_34 (Nat.le_refl _) (Nat.le_refl _) ⟨rfl, rfl⟩
  · replace h := xneg c1 h
    refine x_iload 4 d_Md_sumOf_12 rfl ?_
    refine x_aload_n 0 d_Md_sumOf_14 rfl rfl ?_
    refine x_iload_n 1 d_Md_sumOf_15 rfl rfl ?_
    refine x_iload 5 d_Md_sumOf_16 rfl ?_
    refine x_iload 3 d_Md_sumOf_18 rfl ?_
    obtain ⟨p2, e3, h⟩ := xbind h
    refine x_callV0 e_Md_336 sh_65 rfl (t_Md_gainAsIs v1 v6 v4 V L _ e3) rfl rfl rfl (Nat.le_of_ble_eq_true rfl) (xfit_of (by omega) (Nat.le_of_ble_eq_true rfl)) (Nat.zero_le _) (Nat.zero_le _) d_Md_sumOf_20 ?_
    refine x_iadd d_Md_sumOf_23 ?_
    refine x_istore [(5, .int (v5 + p2.1)), (0, .ref 65), (1, .int v1), (3, .int v3), (4, .int v4), (6, .int v6)] d_Md_sumOf_24 (Nat.le_of_ble_eq_true rfl) rfl ?_
    refine x_iinc 5 1 [(6, .int (v6 + 1)), (5, .int (v5 + p2.1)), (0, .ref 65), (1, .int v1), (3, .int v3), (4, .int v4)] d_Md_sumOf_26 rfl (by decide) (Nat.le_of_ble_eq_true rfl) rfl ?_
    refine x_goto 6 d_Md_sumOf_29 (by decide) ?_
    refine x_pick [2, 3, 4, 5, 1, 0] rfl ?_
    exact hk6 v1 v3 v4 (v5 + p2.1) (v6 + 1) p2.2.1 p2.2.2 h
def g_Md_sumOf_6  : Nat → Int32 → Int32 → Int32 → Int32 → Int32 → xV → xL → Option (Int32 × xV × xL)
  | 0, _, _, _, _, _, _, _ => none
  | n + 1, v1, v3, v4, v5, v6, V, L => b_Md_sumOf_6 (g_Md_sumOf_6  n) v1 v3 v4 v5 v6 V L
theorem tg_Md_sumOf_6  (res : Int32 × xV × xL)  : ∀ (n : Nat) (v1 : Int32) (v3 : Int32) (v4 : Int32) (v5 : Int32) (v6 : Int32) (V : xV) (L : xL), g_Md_sumOf_6  n v1 v3 v4 v5 v6 V L = some res → X M_Md_sumOf (xRm (11) M_Md_sumOf) (xZ M_Md_sumOf (fun o h' => o = some (.int res.1) ∧ h' = (SH, res.2.1, res.2.2))) SH V L 0 0 6 [(0, .ref 65), (1, .int v1), (3, .int v3), (4, .int v4), (5, .int v5), (6, .int v6)] []
  | 0, _, _, _, _, _, _, _, h => by cases h
  | n + 1, v1, v3, v4, v5, v6, V, L, h => tb_Md_sumOf_6 (g_Md_sumOf_6  n) res (tg_Md_sumOf_6 res n) v1 v3 v4 v5 v6 V L h
def f_Md_sumOf (a1 : Int32) (a2 : Int32) (a3 : Int32) (a4 : Int32) (V : xV) (L : xL) : Option (Int32 × xV × xL) := g_Md_sumOf_6 2000 a1 a3 a4 0 a2 V L
theorem t_Md_sumOf (a1 : Int32) (a2 : Int32) (a3 : Int32) (a4 : Int32) (V : xV) (L : xL) (res : Int32 × xV × xL) (h : f_Md_sumOf a1 a2 a3 a4 V L = some res) : xRuns (11) M_Md_sumOf [.ref 65, .int a1, .int a2, .int a3, .int a4] (SH, V, L) (fun o h' => o = some (.int res.1) ∧ h' = (SH, res.2.1, res.2.2)) := by
  refine xRuns_of (by decide) (Nat.le_of_ble_eq_true rfl) ?_
  unfold f_Md_sumOf at h
  show X M_Md_sumOf (xRm (11) M_Md_sumOf) (xZ M_Md_sumOf (fun o h' => o = some (.int res.1) ∧ h' = (SH, res.2.1, res.2.2))) SH V L 0 0 0 [(0, .ref 65), (1, .int a1), (2, .int a2), (3, .int a3), (4, .int a4)] []
  refine x_iconst 0 d_Md_sumOf_0 (by decide) ?_
  refine x_istore [(5, .int 0), (0, .ref 65), (1, .int a1), (2, .int a2), (3, .int a3), (4, .int a4)] d_Md_sumOf_1 (Nat.le_of_ble_eq_true rfl) rfl ?_
  refine x_iload_n 3 d_Md_sumOf_3 rfl rfl ?_
  refine x_istore [(6, .int a2), (5, .int 0), (0, .ref 65), (1, .int a1), (2, .int a2), (3, .int a3), (4, .int a4)] d_Md_sumOf_4 (Nat.le_of_ble_eq_true rfl) rfl ?_
  refine x_pick [2, 3, 5, 6, 1, 0] rfl ?_
  exact tg_Md_sumOf_6 res _ a1 a3 a4 0 a2 V L h
-- Md_sumAll
def b_Md_sumAll_6 (k6 : Int32 → Int32 → Int32 → Int32 → Int32 → xV → xL → Option (Int32 × xV × xL)) (v1 : Int32) (v2 : Int32) (v3 : Int32) (v4 : Int32) (v5 : Int32) (V : xV) (L : xL) : Option (Int32 × xV × xL) := (if (V 66 0) ≤ v5 then some (v4, V, L) else (Option.bind (f_Md_sumOf v5 v1 v2 v3 V L) fun p2 => k6 v1 v2 v3 (v4 + p2.1) (v5 + 1) p2.2.1 p2.2.2))
theorem tb_Md_sumAll_6 (k6 : Int32 → Int32 → Int32 → Int32 → Int32 → xV → xL → Option (Int32 × xV × xL)) (res : Int32 × xV × xL) (hk6 : ∀ (v1 : Int32) (v2 : Int32) (v3 : Int32) (v4 : Int32) (v5 : Int32) (V : xV) (L : xL), k6 v1 v2 v3 v4 v5 V L = some res → X M_Md_sumAll (xRm (12) M_Md_sumAll) (xZ M_Md_sumAll (fun o h' => o = some (.int res.1) ∧ h' = (SH, res.2.1, res.2.2))) SH V L 0 0 6 [(0, .ref 65), (1, .int v1), (2, .int v2), (3, .int v3), (4, .int v4), (5, .int v5)] []) (v1 : Int32) (v2 : Int32) (v3 : Int32) (v4 : Int32) (v5 : Int32) (V : xV) (L : xL) (h : b_Md_sumAll_6 k6 v1 v2 v3 v4 v5 V L = some res) : X M_Md_sumAll (xRm (12) M_Md_sumAll) (xZ M_Md_sumAll (fun o h' => o = some (.int res.1) ∧ h' = (SH, res.2.1, res.2.2))) SH V L 0 0 6 [(0, .ref 65), (1, .int v1), (2, .int v2), (3, .int v3), (4, .int v4), (5, .int v5)] [] := by
  unfold b_Md_sumAll_6 at h
  refine x_iload 5 d_Md_sumAll_6 rfl ?_
  refine x_aload_n 0 d_Md_sumAll_8 rfl rfl ?_
  refine x_getP (q := 66) f_Md_7 sh_65 rfl d_Md_sumAll_9 ?_
  refine x_iconst 0 d_Md_sumAll_12 (by decide) ?_
  refine x_ialoadC 0 sh_66 (by decide) (by decide) d_Md_sumAll_13 ?_
  refine x_icmp_ge 37 d_Md_sumAll_14 (by decide) (fun c1 => ?_) (fun c1 => ?_)
  · replace h := xpos c1 h
    refine x_iload 4 d_Md_sumAll_37 rfl ?_
    obtain rfl := Option.some.inj h
    exact x_ireturn rfl d_Md_sumAll_39 (Nat.le_refl _) (Nat.le_refl _) ⟨rfl, rfl⟩
  · replace h := xneg c1 h
    refine x_iload 4 d_Md_sumAll_17 rfl ?_
    refine x_aload_n 0 d_Md_sumAll_19 rfl rfl ?_
    refine x_iload 5 d_Md_sumAll_20 rfl ?_
    refine x_iload_n 1 d_Md_sumAll_22 rfl rfl ?_
    refine x_iload_n 2 d_Md_sumAll_23 rfl rfl ?_
    refine x_iload_n 3 d_Md_sumAll_24 rfl rfl ?_
    obtain ⟨p2, e3, h⟩ := xbind h
    refine x_callV0 e_Md_341 sh_65 rfl (t_Md_sumOf v5 v1 v2 v3 V L _ e3) rfl rfl rfl (Nat.le_of_ble_eq_true rfl) (xfit_of (by omega) (Nat.le_of_ble_eq_true rfl)) (Nat.zero_le _) (Nat.zero_le _) d_Md_sumAll_25 ?_
    refine x_iadd d_Md_sumAll_28 ?_
    refine x_istore [(4, .int (v4 + p2.1)), (0, .ref 65), (1, .int v1), (2, .int v2), (3, .int v3), (5, .int v5)] d_Md_sumAll_29 (Nat.le_of_ble_eq_true rfl) rfl ?_
    refine x_iinc 5 1 [(5, .int (v5 + 1)), (4, .int (v4 + p2.1)), (0, .ref 65), (1, .int v1), (2, .int v2), (3, .int v3)] d_Md_sumAll_31 rfl (by decide) (Nat.le_of_ble_eq_true rfl) rfl ?_
    refine x_goto 6 d_Md_sumAll_34 (by decide) ?_
    refine x_pick [2, 3, 4, 5, 1, 0] rfl ?_
    exact hk6 v1 v2 v3 (v4 + p2.1) (v5 + 1) p2.2.1 p2.2.2 h
def g_Md_sumAll_6  : Nat → Int32 → Int32 → Int32 → Int32 → Int32 → xV → xL → Option (Int32 × xV × xL)
  | 0, _, _, _, _, _, _, _ => none
  | n + 1, v1, v2, v3, v4, v5, V, L => b_Md_sumAll_6 (g_Md_sumAll_6  n) v1 v2 v3 v4 v5 V L
theorem tg_Md_sumAll_6  (res : Int32 × xV × xL)  : ∀ (n : Nat) (v1 : Int32) (v2 : Int32) (v3 : Int32) (v4 : Int32) (v5 : Int32) (V : xV) (L : xL), g_Md_sumAll_6  n v1 v2 v3 v4 v5 V L = some res → X M_Md_sumAll (xRm (12) M_Md_sumAll) (xZ M_Md_sumAll (fun o h' => o = some (.int res.1) ∧ h' = (SH, res.2.1, res.2.2))) SH V L 0 0 6 [(0, .ref 65), (1, .int v1), (2, .int v2), (3, .int v3), (4, .int v4), (5, .int v5)] []
  | 0, _, _, _, _, _, _, _, h => by cases h
  | n + 1, v1, v2, v3, v4, v5, V, L, h => tb_Md_sumAll_6 (g_Md_sumAll_6  n) res (tg_Md_sumAll_6 res n) v1 v2 v3 v4 v5 V L h
def f_Md_sumAll (a1 : Int32) (a2 : Int32) (a3 : Int32) (V : xV) (L : xL) : Option (Int32 × xV × xL) := g_Md_sumAll_6 2000 a1 a2 a3 0 0 V L
theorem t_Md_sumAll (a1 : Int32) (a2 : Int32) (a3 : Int32) (V : xV) (L : xL) (res : Int32 × xV × xL) (h : f_Md_sumAll a1 a2 a3 V L = some res) : xRuns (12) M_Md_sumAll [.ref 65, .int a1, .int a2, .int a3] (SH, V, L) (fun o h' => o = some (.int res.1) ∧ h' = (SH, res.2.1, res.2.2)) := by
  refine xRuns_of (by decide) (Nat.le_of_ble_eq_true rfl) ?_
  unfold f_Md_sumAll at h
  show X M_Md_sumAll (xRm (12) M_Md_sumAll) (xZ M_Md_sumAll (fun o h' => o = some (.int res.1) ∧ h' = (SH, res.2.1, res.2.2))) SH V L 0 0 0 [(0, .ref 65), (1, .int a1), (2, .int a2), (3, .int a3)] []
  refine x_iconst 0 d_Md_sumAll_0 (by decide) ?_
  refine x_istore [(4, .int 0), (0, .ref 65), (1, .int a1), (2, .int a2), (3, .int a3)] d_Md_sumAll_1 (Nat.le_of_ble_eq_true rfl) rfl ?_
  refine x_iconst 0 d_Md_sumAll_3 (by decide) ?_
  refine x_istore [(5, .int 0), (4, .int 0), (0, .ref 65), (1, .int a1), (2, .int a2), (3, .int a3)] d_Md_sumAll_4 (Nat.le_of_ble_eq_true rfl) rfl ?_
  refine x_pick [2, 3, 4, 5, 1, 0] rfl ?_
  exact tg_Md_sumAll_6 res _ a1 a2 a3 0 0 V L h
-- Md_sum
def b_Md_sum_13 (v1 : Int32) (v2 : Int32) (v3 : Int32) (v4 : Int32) (V : xV) (L : xL) : Option (Int32 × xV × xL) := (if (f_Md_isDay v2) = 0 then some ((-100000000), V, L) else (if ¬ (f_Md_in v3 v2 29) = 0 then (if ¬ v1 = (-1) then (Option.bind (f_Md_sumOf v1 v2 v3 v4 V L) fun p9 => some (p9.1, p9.2.1, p9.2.2)) else (Option.bind (f_Md_sumAll v2 v3 v4 V L) fun p11 => some (p11.1, p11.2.1, p11.2.2))) else some ((-100000000), V, L)))
theorem tb_Md_sum_13  (res : Int32 × xV × xL)  (v1 : Int32) (v2 : Int32) (v3 : Int32) (v4 : Int32) (V : xV) (L : xL) (h : b_Md_sum_13 v1 v2 v3 v4 V L = some res) : X M_Md_sum (xRm (13) M_Md_sum) (xZ M_Md_sum (fun o h' => o = some (.int res.1) ∧ h' = (SH, res.2.1, res.2.2))) SH V L 0 0 13 [(0, .ref 65), (1, .int v1), (2, .int v2), (3, .int v3), (4, .int v4)] [] := by
  unfold b_Md_sum_13 at h
  refine x_iload_n 2 d_Md_sum_13 rfl rfl ?_
  refine x_callS0 e_Md_97 (t_Md_isDay v2 V L _ rfl) rfl rfl rfl (Nat.le_of_ble_eq_true rfl) (xfit_of (by omega) (Nat.le_of_ble_eq_true rfl)) (Nat.zero_le _) (Nat.zero_le _) d_Md_sum_14 ?_
  refine x_if_eq 30 d_Md_sum_17 (by decide) (fun c5 => ?_) (fun c5 => ?_)
  · replace h := xpos c5 h
    refine x_ldcw c_Md_345 d_Md_sum_30 ?_
    obtain rfl := Option.some.inj h
    exact x_ireturn rfl d_Md_sum_33 (Nat.le_refl _) (Nat.le_refl _) ⟨rfl, rfl⟩
  · replace h := xneg c5 h
    refine x_iload_n 3 d_Md_sum_20 rfl rfl ?_
    refine x_iload_n 2 d_Md_sum_21 rfl rfl ?_
    refine x_bipush 29 d_Md_sum_22 (by decide) ?_
    refine x_callS0 e_Md_89 (t_Md_in v3 v2 29 V L _ rfl) rfl rfl rfl (Nat.le_of_ble_eq_true rfl) (xfit_of (by omega) (Nat.le_of_ble_eq_true rfl)) (Nat.zero_le _) (Nat.zero_le _) d_Md_sum_24 ?_
    refine x_if_ne 34 d_Md_sum_27 (by decide) (fun c7 => ?_) (fun c7 => ?_)
    · replace h := xpos c7 h
      refine x_iload_n 1 d_Md_sum_34 rfl rfl ?_
      refine x_iconst (-1) d_Md_sum_35 (by decide) ?_
      refine x_icmp_ne 50 d_Md_sum_36 (by decide) (fun c8 => ?_) (fun c8 => ?_)
      · replace h := xpos c8 h
        refine x_aload_n 0 d_Md_sum_50 rfl rfl ?_
        refine x_iload_n 1 d_Md_sum_51 rfl rfl ?_
        refine x_iload_n 2 d_Md_sum_52 rfl rfl ?_
        refine x_iload_n 3 d_Md_sum_53 rfl rfl ?_
        refine x_iload 4 d_Md_sum_54 rfl ?_
        obtain ⟨p9, e10, h⟩ := xbind h
        refine x_callV0 e_Md_341 sh_65 rfl (t_Md_sumOf v1 v2 v3 v4 V L _ e10) rfl rfl rfl (Nat.le_of_ble_eq_true rfl) (xfit_of (by omega) (Nat.le_of_ble_eq_true rfl)) (Nat.zero_le _) (Nat.zero_le _) d_Md_sum_56 ?_
        obtain rfl := Option.some.inj h
        exact x_ireturn rfl d_Md_sum_59 (Nat.le_refl _) (Nat.le_refl _) ⟨rfl, rfl⟩
      · replace h := xneg c8 h
        refine x_aload_n 0 d_Md_sum_39 rfl rfl ?_
        refine x_iload_n 2 d_Md_sum_40 rfl rfl ?_
        refine x_iload_n 3 d_Md_sum_41 rfl rfl ?_
        refine x_iload 4 d_Md_sum_42 rfl ?_
        obtain ⟨p11, e12, h⟩ := xbind h
        refine x_callV0 e_Md_346 sh_65 rfl (t_Md_sumAll v2 v3 v4 V L _ e12) rfl rfl rfl (Nat.le_of_ble_eq_true rfl) (xfit_of (by omega) (Nat.le_of_ble_eq_true rfl)) (Nat.zero_le _) (Nat.zero_le _) d_Md_sum_44 ?_
        refine x_goto 59 d_Md_sum_47 (by decide) ?_
        obtain rfl := Option.some.inj h
        exact x_ireturn rfl d_Md_sum_59 (Nat.le_refl _) (Nat.le_refl _) ⟨rfl, rfl⟩
    · replace h := xneg c7 h
      refine x_ldcw c_Md_345 d_Md_sum_30 ?_
      obtain rfl := Option.some.inj h
      exact x_ireturn rfl d_Md_sum_33 (Nat.le_refl _) (Nat.le_refl _) ⟨rfl, rfl⟩
def f_Md_sum (a1 : Int32) (a2 : Int32) (a3 : Int32) (a4 : Int32) (V : xV) (L : xL) : Option (Int32 × xV × xL) := (if a1 = (-1) then b_Md_sum_13 a1 a2 a3 a4 V L else (if (f_Md_isFolk a1 V) = 0 then some ((-100000000), V, L) else b_Md_sum_13 a1 a2 a3 a4 V L))
theorem t_Md_sum (a1 : Int32) (a2 : Int32) (a3 : Int32) (a4 : Int32) (V : xV) (L : xL) (res : Int32 × xV × xL) (h : f_Md_sum a1 a2 a3 a4 V L = some res) : xRuns (13) M_Md_sum [.ref 65, .int a1, .int a2, .int a3, .int a4] (SH, V, L) (fun o h' => o = some (.int res.1) ∧ h' = (SH, res.2.1, res.2.2)) := by
  refine xRuns_of (by decide) (Nat.le_of_ble_eq_true rfl) ?_
  unfold f_Md_sum at h
  show X M_Md_sum (xRm (13) M_Md_sum) (xZ M_Md_sum (fun o h' => o = some (.int res.1) ∧ h' = (SH, res.2.1, res.2.2))) SH V L 0 0 0 [(0, .ref 65), (1, .int a1), (2, .int a2), (3, .int a3), (4, .int a4)] []
  refine x_iload_n 1 d_Md_sum_0 rfl rfl ?_
  refine x_iconst (-1) d_Md_sum_1 (by decide) ?_
  refine x_icmp_eq 13 d_Md_sum_2 (by decide) (fun c1 => ?_) (fun c1 => ?_)
  · replace h := xpos c1 h
    exact tb_Md_sum_13 res a1 a2 a3 a4 V L h
  · replace h := xneg c1 h
    refine x_aload_n 0 d_Md_sum_5 rfl rfl ?_
    refine x_iload_n 1 d_Md_sum_6 rfl rfl ?_
    refine x_callV0 e_Md_333 sh_65 rfl (t_Md_isFolk a1 V L _ rfl) rfl rfl rfl (Nat.le_of_ble_eq_true rfl) (xfit_of (by omega) (Nat.le_of_ble_eq_true rfl)) (Nat.zero_le _) (Nat.zero_le _) d_Md_sum_7 ?_
    refine x_if_eq 30 d_Md_sum_10 (by decide) (fun c3 => ?_) (fun c3 => ?_)
    · replace h := xpos c3 h
      refine x_ldcw c_Md_345 d_Md_sum_30 ?_
      obtain rfl := Option.some.inj h
      exact x_ireturn rfl d_Md_sum_33 (Nat.le_refl _) (Nat.le_refl _) ⟨rfl, rfl⟩
    · replace h := xneg c3 h
      exact tb_Md_sum_13 res a1 a2 a3 a4 V L h
-- Md_ruined
def b_Md_ruined_11 (k11 : Int32 → Int32 → Int32 → xV → xL → Option (Int32 × xV × xL)) (v1 : Int32) (v2 : Int32) (v3 : Int32) (V : xV) (L : xL) : Option (Int32 × xV × xL) := (if (V 66 0) ≤ v3 then (if ¬ v1 = (-1) then some ((-1), V, L) else some (v2, V, L)) else (Option.bind (f_Md_sumOf v3 0 29 0 V L) fun p4 => (if (0 - (p4.2.1 66 1)) ≤ p4.1 then k11 v1 v2 (v3 + 1) p4.2.1 p4.2.2 else (if ¬ v2 = v1 then k11 v1 (v2 + 1) (v3 + 1) p4.2.1 p4.2.2 else some (v3, p4.2.1, p4.2.2)))))
theorem tb_Md_ruined_11 (k11 : Int32 → Int32 → Int32 → xV → xL → Option (Int32 × xV × xL)) (res : Int32 × xV × xL) (hk11 : ∀ (v1 : Int32) (v2 : Int32) (v3 : Int32) (V : xV) (L : xL), k11 v1 v2 v3 V L = some res → X M_Md_ruined (xRm (12) M_Md_ruined) (xZ M_Md_ruined (fun o h' => o = some (.int res.1) ∧ h' = (SH, res.2.1, res.2.2))) SH V L 0 0 11 [(0, .ref 65), (1, .int v1), (2, .int v2), (3, .int v3)] []) (v1 : Int32) (v2 : Int32) (v3 : Int32) (V : xV) (L : xL) (h : b_Md_ruined_11 k11 v1 v2 v3 V L = some res) : X M_Md_ruined (xRm (12) M_Md_ruined) (xZ M_Md_ruined (fun o h' => o = some (.int res.1) ∧ h' = (SH, res.2.1, res.2.2))) SH V L 0 0 11 [(0, .ref 65), (1, .int v1), (2, .int v2), (3, .int v3)] [] := by
  unfold b_Md_ruined_11 at h
  refine x_iload_n 3 d_Md_ruined_11 rfl rfl ?_
  refine x_aload_n 0 d_Md_ruined_12 rfl rfl ?_
  refine x_getP (q := 66) f_Md_7 sh_65 rfl d_Md_ruined_13 ?_
  refine x_iconst 0 d_Md_ruined_16 (by decide) ?_
  refine x_ialoadC 0 sh_66 (by decide) (by decide) d_Md_ruined_17 ?_
  refine x_icmp_ge 56 d_Md_ruined_18 (by decide) (fun c2 => ?_) (fun c2 => ?_)
  · replace h := xpos c2 h
    refine x_iload_n 1 d_Md_ruined_56 rfl rfl ?_
    refine x_iconst (-1) d_Md_ruined_57 (by decide) ?_
    refine x_icmp_ne 65 d_Md_ruined_58 (by decide) (fun c3 => ?_) (fun c3 => ?_)
    · replace h := xpos c3 h
      refine x_iconst (-1) d_Md_ruined_65 (by decide) ?_
      obtain rfl := Option.some.inj h
      exact x_ireturn rfl d_Md_ruined_66 (Nat.le_refl _) (Nat.le_refl _) ⟨rfl, rfl⟩
    · replace h := xneg c3 h
      refine x_iload_n 2 d_Md_ruined_61 rfl rfl ?_
      refine x_goto 66 d_Md_ruined_62 (by decide) ?_
      obtain rfl := Option.some.inj h
      exact x_ireturn rfl d_Md_ruined_66 (Nat.le_refl _) (Nat.le_refl _) ⟨rfl, rfl⟩
  · replace h := xneg c2 h
    refine x_aload_n 0 d_Md_ruined_21 rfl rfl ?_
    refine x_iload_n 3 d_Md_ruined_22 rfl rfl ?_
    refine x_iconst 0 d_Md_ruined_23 (by decide) ?_
    refine x_bipush 29 d_Md_ruined_24 (by decide) ?_
    refine x_iconst 0 d_Md_ruined_26 (by decide) ?_
    obtain ⟨p4, e5, h⟩ := xbind h
    refine x_callV0 e_Md_341 sh_65 rfl (t_Md_sumOf v3 0 29 0 V L _ e5) rfl rfl rfl (Nat.le_of_ble_eq_true rfl) (xfit_of (by omega) (Nat.le_of_ble_eq_true rfl)) (Nat.zero_le _) (Nat.zero_le _) d_Md_ruined_27 ?_
    refine x_aload_n 0 d_Md_ruined_30 rfl rfl ?_
    refine x_getP (q := 66) f_Md_7 sh_65 rfl d_Md_ruined_31 ?_
    refine x_iconst 1 d_Md_ruined_34 (by decide) ?_
    refine x_ialoadC 1 sh_66 (by decide) (by decide) d_Md_ruined_35 ?_
    refine x_ineg d_Md_ruined_36 ?_
    refine x_icmp_ge 50 d_Md_ruined_37 (by decide) (fun c6 => ?_) (fun c6 => ?_)
    · replace h := xpos c6 h
      refine x_iinc 3 1 [(3, .int (v3 + 1)), (0, .ref 65), (1, .int v1), (2, .int v2)] d_Md_ruined_50 rfl (by decide) (Nat.le_of_ble_eq_true rfl) rfl ?_
      refine x_goto 11 d_Md_ruined_53 (by decide) ?_
      refine x_pick [1, 2, 3, 0] rfl ?_
      exact hk11 v1 v2 (v3 + 1) p4.2.1 p4.2.2 h
    · replace h := xneg c6 h
      refine x_iload_n 2 d_Md_ruined_40 rfl rfl ?_
      refine x_iload_n 1 d_Md_ruined_41 rfl rfl ?_
      refine x_icmp_ne 47 d_Md_ruined_42 (by decide) (fun c7 => ?_) (fun c7 => ?_)
      · replace h := xpos c7 h
        refine x_iinc 2 1 [(2, .int (v2 + 1)), (0, .ref 65), (1, .int v1), (3, .int v3)] d_Md_ruined_47 rfl (by decide) (Nat.le_of_ble_eq_true rfl) rfl ?_
        refine x_iinc 3 1 [(3, .int (v3 + 1)), (2, .int (v2 + 1)), (0, .ref 65), (1, .int v1)] d_Md_ruined_50 rfl (by decide) (Nat.le_of_ble_eq_true rfl) rfl ?_
        refine x_goto 11 d_Md_ruined_53 (by decide) ?_
        refine x_pick [2, 3, 1, 0] rfl ?_
        exact hk11 v1 (v2 + 1) (v3 + 1) p4.2.1 p4.2.2 h
      · replace h := xneg c7 h
        refine x_iload_n 3 d_Md_ruined_45 rfl rfl ?_
        obtain rfl := Option.some.inj h
        exact x_ireturn rfl d_Md_ruined_46 (Nat.le_refl _) (Nat.le_refl _) ⟨rfl, rfl⟩
def g_Md_ruined_11  : Nat → Int32 → Int32 → Int32 → xV → xL → Option (Int32 × xV × xL)
  | 0, _, _, _, _, _ => none
  | n + 1, v1, v2, v3, V, L => b_Md_ruined_11 (g_Md_ruined_11  n) v1 v2 v3 V L
theorem tg_Md_ruined_11  (res : Int32 × xV × xL)  : ∀ (n : Nat) (v1 : Int32) (v2 : Int32) (v3 : Int32) (V : xV) (L : xL), g_Md_ruined_11  n v1 v2 v3 V L = some res → X M_Md_ruined (xRm (12) M_Md_ruined) (xZ M_Md_ruined (fun o h' => o = some (.int res.1) ∧ h' = (SH, res.2.1, res.2.2))) SH V L 0 0 11 [(0, .ref 65), (1, .int v1), (2, .int v2), (3, .int v3)] []
  | 0, _, _, _, _, _, h => by cases h
  | n + 1, v1, v2, v3, V, L, h => tb_Md_ruined_11 (g_Md_ruined_11  n) res (tg_Md_ruined_11 res n) v1 v2 v3 V L h
def f_Md_ruined (a1 : Int32) (V : xV) (L : xL) : Option (Int32 × xV × xL) := (if (-1) ≤ a1 then g_Md_ruined_11 2000 a1 0 0 V L else some ((-1), V, L))
theorem t_Md_ruined (a1 : Int32) (V : xV) (L : xL) (res : Int32 × xV × xL) (h : f_Md_ruined a1 V L = some res) : xRuns (12) M_Md_ruined [.ref 65, .int a1] (SH, V, L) (fun o h' => o = some (.int res.1) ∧ h' = (SH, res.2.1, res.2.2)) := by
  refine xRuns_of (by decide) (Nat.le_of_ble_eq_true rfl) ?_
  unfold f_Md_ruined at h
  show X M_Md_ruined (xRm (12) M_Md_ruined) (xZ M_Md_ruined (fun o h' => o = some (.int res.1) ∧ h' = (SH, res.2.1, res.2.2))) SH V L 0 0 0 [(0, .ref 65), (1, .int a1)] []
  refine x_iload_n 1 d_Md_ruined_0 rfl rfl ?_
  refine x_iconst (-1) d_Md_ruined_1 (by decide) ?_
  refine x_icmp_ge 7 d_Md_ruined_2 (by decide) (fun c1 => ?_) (fun c1 => ?_)
  · replace h := xpos c1 h
    refine x_iconst 0 d_Md_ruined_7 (by decide) ?_
    refine x_istore_n [(2, .int 0), (0, .ref 65), (1, .int a1)] d_Md_ruined_8 rfl (Nat.le_of_ble_eq_true rfl) rfl ?_
    refine x_iconst 0 d_Md_ruined_9 (by decide) ?_
    refine x_istore_n [(3, .int 0), (2, .int 0), (0, .ref 65), (1, .int a1)] d_Md_ruined_10 rfl (Nat.le_of_ble_eq_true rfl) rfl ?_
    refine x_pick [2, 3, 1, 0] rfl ?_
    exact tg_Md_ruined_11 res _ a1 0 0 V L h
  · replace h := xneg c1 h
    refine x_iconst (-1) d_Md_ruined_5 (by decide) ?_
    obtain rfl := Option.some.inj h
    exact x_ireturn rfl d_Md_ruined_6 (Nat.le_refl _) (Nat.le_refl _) ⟨rfl, rfl⟩
-- Md_led
def b_Md_led_27 (k27 : Int32 → Int32 → Int32 → Int32 → Int32 → xV → xL → Option (Int32 × xV × xL)) (v1 : Int32) (v2 : Int32) (v3 : Int32) (v4 : Int32) (v5 : Int32) (V : xV) (L : xL) : Option (Int32 × xV × xL) := (if 30 ≤ v5 then (if ¬ v3 = (-1) then (if ¬ v2 = 0 then some (v4, V, L) else some (v3, V, L)) else some ((-1), V, L)) else (Option.bind (f_Md_provinceOf v1 V) fun p8 => (Option.bind (f_Md_decreeOf v5 p8 V) fun p10 => (if xI (10 + v5) 270 = true then (Option.bind (f_Md_gainOf v1 v5 (V 66 (10 + v5).toNatClampNeg) (1 - p10) 0 V L) fun p13 => (if xI (10 + v5) 270 = true then (Option.bind (f_Md_gainOf v1 v5 (p13.2.1 66 (10 + v5).toNatClampNeg) p10 0 p13.2.1 p13.2.2) fun p16 => (if (p13.1 - p16.1) ≤ v4 then k27 v1 v2 v3 v4 (v5 + 1) p16.2.1 p16.2.2 else k27 v1 v2 v5 (p13.1 - p16.1) (v5 + 1) p16.2.1 p16.2.2)) else none)) else none))))
theorem tb_Md_led_27 (k27 : Int32 → Int32 → Int32 → Int32 → Int32 → xV → xL → Option (Int32 × xV × xL)) (res : Int32 × xV × xL) (hk27 : ∀ (v1 : Int32) (v2 : Int32) (v3 : Int32) (v4 : Int32) (v5 : Int32) (V : xV) (L : xL), k27 v1 v2 v3 v4 v5 V L = some res → X M_Md_led (xRm (10) M_Md_led) (xZ M_Md_led (fun o h' => o = some (.int res.1) ∧ h' = (SH, res.2.1, res.2.2))) SH V L 0 0 27 [(0, .ref 65), (1, .int v1), (2, .int v2), (3, .int v3), (4, .int v4), (5, .int v5)] []) (v1 : Int32) (v2 : Int32) (v3 : Int32) (v4 : Int32) (v5 : Int32) (V : xV) (L : xL) (h : b_Md_led_27 k27 v1 v2 v3 v4 v5 V L = some res) : X M_Md_led (xRm (10) M_Md_led) (xZ M_Md_led (fun o h' => o = some (.int res.1) ∧ h' = (SH, res.2.1, res.2.2))) SH V L 0 0 27 [(0, .ref 65), (1, .int v1), (2, .int v2), (3, .int v3), (4, .int v4), (5, .int v5)] [] := by
  unfold b_Md_led_27 at h
  refine x_iload 5 d_Md_led_27 rfl ?_
  refine x_bipush 30 d_Md_led_29 (by decide) ?_
  refine x_icmp_ge 112 d_Md_led_31 (by decide) (fun c5 => ?_) (fun c5 => ?_)
  · replace h := xpos c5 h
    refine x_iload_n 3 d_Md_led_112 rfl rfl ?_
    refine x_iconst (-1) d_Md_led_113 (by decide) ?_
    refine x_icmp_ne 121 d_Md_led_114 (by decide) (fun c6 => ?_) (fun c6 => ?_)
    · replace h := xpos c6 h
      refine x_iload_n 2 d_Md_led_121 rfl rfl ?_
      refine x_if_ne 129 d_Md_led_122 (by decide) (fun c7 => ?_) (fun c7 => ?_)
      · replace h := xpos c7 h
        refine x_iload 4 d_Md_led_129 rfl ?_
        obtain rfl := Option.some.inj h
        exact x_ireturn rfl d_Md_led_131 (Nat.le_refl _) (Nat.le_refl _) ⟨rfl, rfl⟩
      · replace h := xneg c7 h
        refine x_iload_n 3 d_Md_led_125 rfl rfl ?_
        refine x_goto 131 d_Md_led_126 (by decide) ?_
        obtain rfl := Option.some.inj h
        exact x_ireturn rfl d_Md_led_131 (Nat.le_refl _) (Nat.le_refl _) ⟨rfl, rfl⟩
    · replace h := xneg c6 h
      refine x_iconst (-1) d_Md_led_117 (by decide) ?_
      refine x_goto 131 d_Md_led_118 (by decide) ?_
      obtain rfl := Option.some.inj h
      exact x_ireturn rfl d_Md_led_131 (Nat.le_refl _) (Nat.le_refl _) ⟨rfl, rfl⟩
  · replace h := xneg c5 h
    refine x_aload_n 0 d_Md_led_34 rfl rfl ?_
    refine x_iload 5 d_Md_led_35 rfl ?_
    refine x_aload_n 0 d_Md_led_37 rfl rfl ?_
    refine x_iload_n 1 d_Md_led_38 rfl rfl ?_
    obtain ⟨p8, e9, h⟩ := xbind h
    refine x_callV0 e_Md_304 sh_65 rfl (t_Md_provinceOf v1 V L _ e9) rfl rfl rfl (Nat.le_of_ble_eq_true rfl) (xfit_of (by omega) (Nat.le_of_ble_eq_true rfl)) (Nat.zero_le _) (Nat.zero_le _) d_Md_led_39 ?_
    obtain ⟨p10, e11, h⟩ := xbind h
    refine x_callV0 e_Md_291 sh_65 rfl (t_Md_decreeOf v5 p8 V L _ e11) rfl rfl rfl (Nat.le_of_ble_eq_true rfl) (xfit_of (by omega) (Nat.le_of_ble_eq_true rfl)) (Nat.zero_le _) (Nat.zero_le _) d_Md_led_42 ?_
    refine x_istore [(6, .int p10), (0, .ref 65), (1, .int v1), (2, .int v2), (3, .int v3), (4, .int v4), (5, .int v5)] d_Md_led_45 (Nat.le_of_ble_eq_true rfl) rfl ?_
    refine x_aload_n 1 d_Md_led_47 rfl rfl ?_
    refine x_iload_n 2 d_Md_led_48 rfl rfl ?_
    refine x_iload 6 d_Md_led_49 rfl ?_
    refine x_aload_n 1 d_Md_led_51 rfl rfl ?_
    refine x_getP (q := 66) f_Md_7 sh_65 rfl d_Md_led_52 ?_
    refine x_bipush 10 d_Md_led_55 (by decide) ?_
    refine x_iload 6 d_Md_led_57 rfl ?_
    refine x_iadd d_Md_led_59 ?_
    obtain ⟨c12, h⟩ := xguard h
    refine x_iaload sh_66 c12 d_Md_led_60 ?_
    refine x_iconst 1 d_Md_led_61 (by decide) ?_
    refine x_iload 0 d_Md_led_62 rfl ?_
    refine x_isub d_Md_led_64 ?_
    refine x_iconst 0 d_Md_led_65 (by decide) ?_
    obtain ⟨p13, e14, h⟩ := xbind h
    refine x_callV0 e_Md_329 sh_65 rfl (t_Md_gainOf v1 v5 (V 66 (10 + v5).toNatClampNeg) (1 - p10) 0 V L _ e14) rfl rfl rfl (Nat.le_of_ble_eq_true rfl) (xfit_of (by omega) (Nat.le_of_ble_eq_true rfl)) (Nat.zero_le _) (Nat.zero_le _) d_Md_led_66 ?_
    refine x_aload_n 1 d_Md_led_69 rfl rfl ?_
    refine x_iload_n 2 d_Md_led_70 rfl rfl ?_
    refine x_iload 6 d_Md_led_71 rfl ?_
    refine x_aload_n 1 d_Md_led_73 rfl rfl ?_
    refine x_getP (q := 66) f_Md_7 sh_65 rfl d_Md_led_74 ?_
    refine x_bipush 10 d_Md_led_77 (by decide) ?_
    refine x_iload 6 d_Md_led_79 rfl ?_
    refine x_iadd d_Md_led_81 ?_
    obtain ⟨c15, h⟩ := xguard h
    refine x_iaload sh_66 c15 d_Md_led_82 ?_
    refine x_iload 0 d_Md_led_83 rfl ?_
    refine x_iconst 0 d_Md_led_85 (by decide) ?_
    obtain ⟨p16, e17, h⟩ := xbind h
    refine x_callV0 e_Md_329 sh_65 rfl (t_Md_gainOf v1 v5 (p13.2.1 66 (10 + v5).toNatClampNeg) p10 0 p13.2.1 p13.2.2 _ e17) rfl rfl rfl (Nat.le_of_ble_eq_true rfl) (xfit_of (by omega) (Nat.le_of_ble_eq_true rfl)) (Nat.zero_le _) (Nat.zero_le _) d_Md_led_86 ?_
    refine x_isub d_Md_led_89 ?_
    refine x_istore [(7, .int (p13.1 - p16.1)), (6, .int p10), (0, .ref 65), (1, .int v1), (2, .int v2), (3, .int v3), (4, .int v4), (5, .int v5)] d_Md_led_90 (Nat.le_of_ble_eq_true rfl) rfl ?_
    refine x_iload 0 d_Md_led_92 rfl ?_
    refine x_iload 6 d_Md_led_94 rfl ?_
    refine x_icmp_le 106 d_Md_led_96 (by decide) (fun c18 => ?_) (fun c18 => ?_)
    · replace h := xpos c18 h
      refine x_iinc 7 1 [(5, .int (v5 + 1)), (7, .int (p13.1 - p16.1)), (6, .int p10), (0, .ref 65), (1, .int v1), (2, .int v2), (3, .int v3), (4, .int v4)] d_Md_led_106 rfl (by decide) (Nat.le_of_ble_eq_true rfl) rfl ?_
      refine x_goto 27 d_Md_led_109 (by decide) ?_
      refine x_pick [3, 4, 5, 6, 7, 0] rfl ?_
      exact hk27 v1 v2 v3 v4 (v5 + 1) p16.2.1 p16.2.2 h
    · replace h := xneg c18 h
      refine x_iload 0 d_Md_led_99 rfl ?_
      refine x_istore [(4, .int (p13.1 - p16.1)), (7, .int (p13.1 - p16.1)), (6, .int p10), (0, .ref 65), (1, .int v1), (2, .int v2), (3, .int v3), (5, .int v5)] d_Md_led_101 (Nat.le_of_ble_eq_true rfl) rfl ?_
      refine x_iload 7 d_Md_led_103 rfl ?_
      refine x_istore_n [(3, .int v5), (4, .int (p13.1 - p16.1)), (7, .int (p13.1 - p16.1)), (6, .int p10), (0, .ref 65), (1, .int v1), (2, .int v2), (5, .int v5)] d_Md_led_105 rfl (Nat.le_of_ble_eq_true rfl) rfl ?_
      refine x_iinc 7 1 [(5, .int (v5 + 1)), (3, .int v5), (4, .int (p13.1 - p16.1)), (7, .int (p13.1 - p16.1)), (6, .int p10), (0, .ref 65), (1, .int v1), (2, .int v2)] d_Md_led_106 rfl (by decide) (Nat.le_of_ble_eq_true rfl) rfl ?_
      refine x_goto 27 d_Md_led_109 (by decide) ?_
      refine x_pick [5, 6, 7, 1, 2, 0] rfl ?_
      exact hk27 v1 v2 v5 (p13.1 - p16.1) (v5 + 1) p16.2.1 p16.2.2 h
def g_Md_led_27  : Nat → Int32 → Int32 → Int32 → Int32 → Int32 → xV → xL → Option (Int32 × xV × xL)
  | 0, _, _, _, _, _, _, _ => none
  | n + 1, v1, v2, v3, v4, v5, V, L => b_Md_led_27 (g_Md_led_27  n) v1 v2 v3 v4 v5 V L
theorem tg_Md_led_27  (res : Int32 × xV × xL)  : ∀ (n : Nat) (v1 : Int32) (v2 : Int32) (v3 : Int32) (v4 : Int32) (v5 : Int32) (V : xV) (L : xL), g_Md_led_27  n v1 v2 v3 v4 v5 V L = some res → X M_Md_led (xRm (10) M_Md_led) (xZ M_Md_led (fun o h' => o = some (.int res.1) ∧ h' = (SH, res.2.1, res.2.2))) SH V L 0 0 27 [(0, .ref 65), (1, .int v1), (2, .int v2), (3, .int v3), (4, .int v4), (5, .int v5)] []
  | 0, _, _, _, _, _, _, _, h => by cases h
  | n + 1, v1, v2, v3, v4, v5, V, L, h => tb_Md_led_27 (g_Md_led_27  n) res (tg_Md_led_27 res n) v1 v2 v3 v4 v5 V L h
def f_Md_led (a1 : Int32) (a2 : Int32) (V : xV) (L : xL) : Option (Int32 × xV × xL) := (if (f_Md_isFolk a1 V) = 0 then some ((-1), V, L) else (if ¬ (f_Md_in a2 0 1) = 0 then g_Md_led_27 2000 a1 a2 (-1) 0 0 V L else some ((-1), V, L)))
theorem t_Md_led (a1 : Int32) (a2 : Int32) (V : xV) (L : xL) (res : Int32 × xV × xL) (h : f_Md_led a1 a2 V L = some res) : xRuns (10) M_Md_led [.ref 65, .int a1, .int a2] (SH, V, L) (fun o h' => o = some (.int res.1) ∧ h' = (SH, res.2.1, res.2.2)) := by
  refine xRuns_of (by decide) (Nat.le_of_ble_eq_true rfl) ?_
  unfold f_Md_led at h
  show X M_Md_led (xRm (10) M_Md_led) (xZ M_Md_led (fun o h' => o = some (.int res.1) ∧ h' = (SH, res.2.1, res.2.2))) SH V L 0 0 0 [(0, .ref 65), (1, .int a1), (2, .int a2)] []
  refine x_aload_n 0 d_Md_led_0 rfl rfl ?_
  refine x_iload_n 1 d_Md_led_1 rfl rfl ?_
  refine x_callV0 e_Md_333 sh_65 rfl (t_Md_isFolk a1 V L _ rfl) rfl rfl rfl (Nat.le_of_ble_eq_true rfl) (xfit_of (by omega) (Nat.le_of_ble_eq_true rfl)) (Nat.zero_le _) (Nat.zero_le _) d_Md_led_2 ?_
  refine x_if_eq 17 d_Md_led_5 (by decide) (fun c2 => ?_) (fun c2 => ?_)
  · replace h := xpos c2 h
    refine x_iconst (-1) d_Md_led_17 (by decide) ?_
    obtain rfl := Option.some.inj h
    exact x_ireturn rfl d_Md_led_18 (Nat.le_refl _) (Nat.le_refl _) ⟨rfl, rfl⟩
  · replace h := xneg c2 h
    refine x_iload_n 2 d_Md_led_8 rfl rfl ?_
    refine x_iconst 0 d_Md_led_9 (by decide) ?_
    refine x_iconst 1 d_Md_led_10 (by decide) ?_
    refine x_callS0 e_Md_89 (t_Md_in a2 0 1 V L _ rfl) rfl rfl rfl (Nat.le_of_ble_eq_true rfl) (xfit_of (by omega) (Nat.le_of_ble_eq_true rfl)) (Nat.zero_le _) (Nat.zero_le _) d_Md_led_11 ?_
    refine x_if_ne 19 d_Md_led_14 (by decide) (fun c4 => ?_) (fun c4 => ?_)
    · replace h := xpos c4 h
      refine x_iconst (-1) d_Md_led_19 (by decide) ?_
      refine x_istore_n [(3, .int (-1)), (0, .ref 65), (1, .int a1), (2, .int a2)] d_Md_led_20 rfl (Nat.le_of_ble_eq_true rfl) rfl ?_
      refine x_iconst 0 d_Md_led_21 (by decide) ?_
      refine x_istore [(4, .int 0), (3, .int (-1)), (0, .ref 65), (1, .int a1), (2, .int a2)] d_Md_led_22 (Nat.le_of_ble_eq_true rfl) rfl ?_
      refine x_iconst 0 d_Md_led_24 (by decide) ?_
      refine x_istore [(5, .int 0), (4, .int 0), (3, .int (-1)), (0, .ref 65), (1, .int a1), (2, .int a2)] d_Md_led_25 (Nat.le_of_ble_eq_true rfl) rfl ?_
      refine x_pick [3, 4, 5, 2, 1, 0] rfl ?_
      exact tg_Md_led_27 res _ a1 a2 (-1) 0 0 V L h
    · replace h := xneg c4 h
      refine x_iconst (-1) d_Md_led_17 (by decide) ?_
      obtain rfl := Option.some.inj h
      exact x_ireturn rfl d_Md_led_18 (Nat.le_refl _) (Nat.le_refl _) ⟨rfl, rfl⟩
-- Md_isAlike
def b_Md_isAlike_14 (k14 : Int32 → Int32 → Int32 → Int32 → Int32 → Int32 → xV → xL → Option (Int32 × xV × xL)) (v1 : Int32) (v2 : Int32) (v3 : Int32) (v4 : Int32) (v5 : Int32) (v6 : Int32) (V : xV) (L : xL) : Option (Int32 × xV × xL) := (if (V 66 0) ≤ v6 then (if v5 = 0 ∨ v5 = 1 then some (v5, V, L) else none) else (if v5 = 0 then (if v5 = 0 ∨ v5 = 1 then some (v5, V, L) else none) else (Option.bind (f_Md_provinceOf v6 V) fun p7 => (if ¬ p7 = v2 then k14 v1 v2 v3 v4 v5 (v6 + 1) V L else (if xI (10 + v1) 270 = true then (Option.bind (f_Md_does v6 v1 (V 66 (10 + v1).toNatClampNeg) v4 V L) fun p11 => (Option.bind (f_Md_does v6 v1 v3 v4 p11.2.1 p11.2.2) fun p13 => (if ¬ p11.1 = p13.1 then k14 v1 v2 v3 v4 0 (v6 + 1) p13.2.1 p13.2.2 else k14 v1 v2 v3 v4 1 (v6 + 1) p13.2.1 p13.2.2))) else none)))))
theorem tb_Md_isAlike_14 (k14 : Int32 → Int32 → Int32 → Int32 → Int32 → Int32 → xV → xL → Option (Int32 × xV × xL)) (res : Int32 × xV × xL) (hk14 : ∀ (v1 : Int32) (v2 : Int32) (v3 : Int32) (v4 : Int32) (v5 : Int32) (v6 : Int32) (V : xV) (L : xL), k14 v1 v2 v3 v4 v5 v6 V L = some res → X M_Md_isAlike (xRm (6) M_Md_isAlike) (xZ M_Md_isAlike (fun o h' => o = some (.int res.1) ∧ h' = (SH, res.2.1, res.2.2))) SH V L 0 0 14 [(0, .ref 65), (1, .int v1), (2, .int v2), (3, .int v3), (4, .int v4), (5, .int v5), (6, .int v6)] []) (v1 : Int32) (v2 : Int32) (v3 : Int32) (v4 : Int32) (v5 : Int32) (v6 : Int32) (V : xV) (L : xL) (h : b_Md_isAlike_14 k14 v1 v2 v3 v4 v5 v6 V L = some res) : X M_Md_isAlike (xRm (6) M_Md_isAlike) (xZ M_Md_isAlike (fun o h' => o = some (.int res.1) ∧ h' = (SH, res.2.1, res.2.2))) SH V L 0 0 14 [(0, .ref 65), (1, .int v1), (2, .int v2), (3, .int v3), (4, .int v4), (5, .int v5), (6, .int v6)] [] := by
  unfold b_Md_isAlike_14 at h
  refine x_iload 6 d_Md_isAlike_14 rfl ?_
  refine x_aload_n 0 d_Md_isAlike_16 rfl rfl ?_
  refine x_getP (q := 66) f_Md_7 sh_65 rfl d_Md_isAlike_17 ?_
  refine x_iconst 0 d_Md_isAlike_20 (by decide) ?_
  refine x_ialoadC 0 sh_66 (by decide) (by decide) d_Md_isAlike_21 ?_
  refine x_icmp_ge 92 d_Md_isAlike_22 (by decide) (fun c3 => ?_) (fun c3 => ?_)
  · replace h := xpos c3 h
    refine x_iload 5 d_Md_isAlike_92 rfl ?_
    obtain ⟨c4, h⟩ := xguard h
    obtain rfl := Option.some.inj h
    exact x_zreturn rfl (xnz c4) d_Md_isAlike_94 (Nat.le_refl _) (Nat.le_refl _) ⟨rfl, rfl⟩
  · replace h := xneg c3 h
    refine x_iload 5 d_Md_isAlike_25 rfl ?_
    refine x_if_eq 92 d_Md_isAlike_27 (by decide) (fun c5 => ?_) (fun c5 => ?_)
    · replace h := xpos c5 h
      refine x_iload 5 d_Md_isAlike_92 rfl ?_
      obtain ⟨c6, h⟩ := xguard h
      obtain rfl := Option.some.inj h
      exact x_zreturn rfl (xnz c6) d_Md_isAlike_94 (Nat.le_refl _) (Nat.le_refl _) ⟨rfl, rfl⟩
    · replace h := xneg c5 h
      refine x_aload_n 0 d_Md_isAlike_30 rfl rfl ?_
      refine x_iload 6 d_Md_isAlike_31 rfl ?_
      obtain ⟨p7, e8, h⟩ := xbind h
      refine x_callV0 e_Md_304 sh_65 rfl (t_Md_provinceOf v6 V L _ e8) rfl rfl rfl (Nat.le_of_ble_eq_true rfl) (xfit_of (by omega) (Nat.le_of_ble_eq_true rfl)) (Nat.zero_le _) (Nat.zero_le _) d_Md_isAlike_33 ?_
      refine x_iload_n 2 d_Md_isAlike_36 rfl rfl ?_
      refine x_icmp_ne 86 d_Md_isAlike_37 (by decide) (fun c9 => ?_) (fun c9 => ?_)
      · replace h := xpos c9 h
        refine x_iinc 6 1 [(6, .int (v6 + 1)), (0, .ref 65), (1, .int v1), (2, .int v2), (3, .int v3), (4, .int v4), (5, .int v5)] d_Md_isAlike_86 rfl (by decide) (Nat.le_of_ble_eq_true rfl) rfl ?_
        refine x_goto 14 d_Md_isAlike_89 (by decide) ?_
        refine x_pick [1, 2, 3, 4, 5, 6, 0] rfl ?_
        exact hk14 v1 v2 v3 v4 v5 (v6 + 1) V L h
      · replace h := xneg c9 h
        refine x_aload_n 0 d_Md_isAlike_40 rfl rfl ?_
        refine x_iload 6 d_Md_isAlike_41 rfl ?_
        refine x_iload_n 1 d_Md_isAlike_43 rfl rfl ?_
        refine x_aload_n 0 d_Md_isAlike_44 rfl rfl ?_
        refine x_getP (q := 66) f_Md_7 sh_65 rfl d_Md_isAlike_45 ?_
        refine x_bipush 10 d_Md_isAlike_48 (by decide) ?_
        refine x_iload_n 1 d_Md_isAlike_50 rfl rfl ?_
        refine x_iadd d_Md_isAlike_51 ?_
        obtain ⟨c10, h⟩ := xguard h
        refine x_iaload sh_66 c10 d_Md_isAlike_52 ?_
        refine x_iload 4 d_Md_isAlike_53 rfl ?_
        obtain ⟨p11, e12, h⟩ := xbind h
        refine x_callV0 e_Md_311 sh_65 rfl (t_Md_does v6 v1 (V 66 (10 + v1).toNatClampNeg) v4 V L _ e12) rfl rfl rfl (Nat.le_of_ble_eq_true rfl) (xfit_of (by omega) (Nat.le_of_ble_eq_true rfl)) (Nat.zero_le _) (Nat.zero_le _) d_Md_isAlike_55 ?_
        refine x_istore [(7, .int p11.1), (0, .ref 65), (1, .int v1), (2, .int v2), (3, .int v3), (4, .int v4), (5, .int v5), (6, .int v6)] d_Md_isAlike_58 (Nat.le_of_ble_eq_true rfl) rfl ?_
        refine x_aload_n 1 d_Md_isAlike_60 rfl rfl ?_
        refine x_iload 7 d_Md_isAlike_61 rfl ?_
        refine x_iload_n 2 d_Md_isAlike_63 rfl rfl ?_
        refine x_iload_n 4 d_Md_isAlike_64 rfl rfl ?_
        refine x_iload 5 d_Md_isAlike_65 rfl ?_
        obtain ⟨p13, e14, h⟩ := xbind h
        refine x_callV0 e_Md_311 sh_65 rfl (t_Md_does v6 v1 v3 v4 p11.2.1 p11.2.2 _ e14) rfl rfl rfl (Nat.le_of_ble_eq_true rfl) (xfit_of (by omega) (Nat.le_of_ble_eq_true rfl)) (Nat.zero_le _) (Nat.zero_le _) d_Md_isAlike_67 ?_
        refine x_istore [(8, .int p13.1), (7, .int p11.1), (0, .ref 65), (1, .int v1), (2, .int v2), (3, .int v3), (4, .int v4), (5, .int v5), (6, .int v6)] d_Md_isAlike_70 (Nat.le_of_ble_eq_true rfl) rfl ?_
        refine x_iload 1 d_Md_isAlike_72 rfl ?_
        refine x_iload 0 d_Md_isAlike_74 rfl ?_
        refine x_icmp_ne 83 d_Md_isAlike_76 (by decide) (fun c15 => ?_) (fun c15 => ?_)
        · replace h := xpos c15 h
          refine x_iconst 0 d_Md_isAlike_83 (by decide) ?_
          refine x_istore [(5, .int 0), (8, .int p13.1), (7, .int p11.1), (0, .ref 65), (1, .int v1), (2, .int v2), (3, .int v3), (4, .int v4), (6, .int v6)] d_Md_isAlike_84 (Nat.le_of_ble_eq_true rfl) rfl ?_
          refine x_iinc 8 1 [(6, .int (v6 + 1)), (5, .int 0), (8, .int p13.1), (7, .int p11.1), (0, .ref 65), (1, .int v1), (2, .int v2), (3, .int v3), (4, .int v4)] d_Md_isAlike_86 rfl (by decide) (Nat.le_of_ble_eq_true rfl) rfl ?_
          refine x_goto 14 d_Md_isAlike_89 (by decide) ?_
          refine x_pick [4, 5, 6, 7, 8, 1, 0] rfl ?_
          exact hk14 v1 v2 v3 v4 0 (v6 + 1) p13.2.1 p13.2.2 h
        · replace h := xneg c15 h
          refine x_iconst 1 d_Md_isAlike_79 (by decide) ?_
          refine x_goto 84 d_Md_isAlike_80 (by decide) ?_
          refine x_istore [(5, .int 1), (8, .int p13.1), (7, .int p11.1), (0, .ref 65), (1, .int v1), (2, .int v2), (3, .int v3), (4, .int v4), (6, .int v6)] d_Md_isAlike_84 (Nat.le_of_ble_eq_true rfl) rfl ?_
          refine x_iinc 8 1 [(6, .int (v6 + 1)), (5, .int 1), (8, .int p13.1), (7, .int p11.1), (0, .ref 65), (1, .int v1), (2, .int v2), (3, .int v3), (4, .int v4)] d_Md_isAlike_86 rfl (by decide) (Nat.le_of_ble_eq_true rfl) rfl ?_
          refine x_goto 14 d_Md_isAlike_89 (by decide) ?_
          refine x_pick [4, 5, 6, 7, 8, 1, 0] rfl ?_
          exact hk14 v1 v2 v3 v4 1 (v6 + 1) p13.2.1 p13.2.2 h
def g_Md_isAlike_14  : Nat → Int32 → Int32 → Int32 → Int32 → Int32 → Int32 → xV → xL → Option (Int32 × xV × xL)
  | 0, _, _, _, _, _, _, _, _ => none
  | n + 1, v1, v2, v3, v4, v5, v6, V, L => b_Md_isAlike_14 (g_Md_isAlike_14  n) v1 v2 v3 v4 v5 v6 V L
theorem tg_Md_isAlike_14  (res : Int32 × xV × xL)  : ∀ (n : Nat) (v1 : Int32) (v2 : Int32) (v3 : Int32) (v4 : Int32) (v5 : Int32) (v6 : Int32) (V : xV) (L : xL), g_Md_isAlike_14  n v1 v2 v3 v4 v5 v6 V L = some res → X M_Md_isAlike (xRm (6) M_Md_isAlike) (xZ M_Md_isAlike (fun o h' => o = some (.int res.1) ∧ h' = (SH, res.2.1, res.2.2))) SH V L 0 0 14 [(0, .ref 65), (1, .int v1), (2, .int v2), (3, .int v3), (4, .int v4), (5, .int v5), (6, .int v6)] []
  | 0, _, _, _, _, _, _, _, _, h => by cases h
  | n + 1, v1, v2, v3, v4, v5, v6, V, L, h => tb_Md_isAlike_14 (g_Md_isAlike_14  n) res (tg_Md_isAlike_14 res n) v1 v2 v3 v4 v5 v6 V L h
def f_Md_isAlike (a1 : Int32) (a2 : Int32) (a3 : Int32) (V : xV) (L : xL) : Option (Int32 × xV × xL) := (Option.bind (f_Md_decreeOf a1 a2 V) fun p1 => g_Md_isAlike_14 2000 a1 a2 a3 p1 1 0 V L)
theorem t_Md_isAlike (a1 : Int32) (a2 : Int32) (a3 : Int32) (V : xV) (L : xL) (res : Int32 × xV × xL) (h : f_Md_isAlike a1 a2 a3 V L = some res) : xRuns (6) M_Md_isAlike [.ref 65, .int a1, .int a2, .int a3] (SH, V, L) (fun o h' => o = some (.int res.1) ∧ h' = (SH, res.2.1, res.2.2)) := by
  refine xRuns_of (by decide) (Nat.le_of_ble_eq_true rfl) ?_
  unfold f_Md_isAlike at h
  show X M_Md_isAlike (xRm (6) M_Md_isAlike) (xZ M_Md_isAlike (fun o h' => o = some (.int res.1) ∧ h' = (SH, res.2.1, res.2.2))) SH V L 0 0 0 [(0, .ref 65), (1, .int a1), (2, .int a2), (3, .int a3)] []
  refine x_aload_n 0 d_Md_isAlike_0 rfl rfl ?_
  refine x_iload_n 1 d_Md_isAlike_1 rfl rfl ?_
  refine x_iload_n 2 d_Md_isAlike_2 rfl rfl ?_
  obtain ⟨p1, e2, h⟩ := xbind h
  refine x_callV0 e_Md_291 sh_65 rfl (t_Md_decreeOf a1 a2 V L _ e2) rfl rfl rfl (Nat.le_of_ble_eq_true rfl) (xfit_of (by omega) (Nat.le_of_ble_eq_true rfl)) (Nat.zero_le _) (Nat.zero_le _) d_Md_isAlike_3 ?_
  refine x_istore [(4, .int p1), (0, .ref 65), (1, .int a1), (2, .int a2), (3, .int a3)] d_Md_isAlike_6 (Nat.le_of_ble_eq_true rfl) rfl ?_
  refine x_iconst 1 d_Md_isAlike_8 (by decide) ?_
  refine x_istore [(5, .int 1), (4, .int p1), (0, .ref 65), (1, .int a1), (2, .int a2), (3, .int a3)] d_Md_isAlike_9 (Nat.le_of_ble_eq_true rfl) rfl ?_
  refine x_iconst 0 d_Md_isAlike_11 (by decide) ?_
  refine x_istore [(6, .int 0), (5, .int 1), (4, .int p1), (0, .ref 65), (1, .int a1), (2, .int a2), (3, .int a3)] d_Md_isAlike_12 (Nat.le_of_ble_eq_true rfl) rfl ?_
  refine x_pick [3, 4, 5, 6, 2, 1, 0] rfl ?_
  exact tg_Md_isAlike_14 res _ a1 a2 a3 p1 1 0 V L h
-- Md_odds
def b_Md_odds_115 (k115 : Int32 → Int32 → Int32 → Int32 → Int32 → xV → xL → Option (Int32 × xV × xL)) (v3 : Int32) (v4 : Int32) (v5 : Int32) (v6 : Int32) (v7 : Int32) (V : xV) (L : xL) : Option (Int32 × xV × xL) := (if v7 = 0 then (if ¬ v3 = 0 then (if ¬ v6 = 0 then some (v4 / v6, V, L) else none) else (if ¬ v6 = 0 then some (v5 / v6, V, L) else none)) else (if ¬ v7 = 0 then k115 v3 v4 v5 v7 (xrem v6 v7) V L else none))
theorem tb_Md_odds_115 (k115 : Int32 → Int32 → Int32 → Int32 → Int32 → xV → xL → Option (Int32 × xV × xL)) (res : Int32 × xV × xL) (hk115 : ∀ (v3 : Int32) (v4 : Int32) (v5 : Int32) (v6 : Int32) (v7 : Int32) (V : xV) (L : xL), k115 v3 v4 v5 v6 v7 V L = some res → X M_Md_odds (xRm (7) M_Md_odds) (xZ M_Md_odds (fun o h' => o = some (.int res.1) ∧ h' = (SH, res.2.1, res.2.2))) SH V L 0 0 115 [(3, .int v3), (4, .int v4), (5, .int v5), (6, .int v6), (7, .int v7)] []) (v3 : Int32) (v4 : Int32) (v5 : Int32) (v6 : Int32) (v7 : Int32) (V : xV) (L : xL) (h : b_Md_odds_115 k115 v3 v4 v5 v6 v7 V L = some res) : X M_Md_odds (xRm (7) M_Md_odds) (xZ M_Md_odds (fun o h' => o = some (.int res.1) ∧ h' = (SH, res.2.1, res.2.2))) SH V L 0 0 115 [(3, .int v3), (4, .int v4), (5, .int v5), (6, .int v6), (7, .int v7)] [] := by
  unfold b_Md_odds_115 at h
  refine x_iload 4 d_Md_odds_115 rfl ?_
  refine x_if_eq 138 d_Md_odds_117 (by decide) (fun c15 => ?_) (fun c15 => ?_)
  · replace h := xpos c15 h
    refine x_iload_n 0 d_Md_odds_138 rfl rfl ?_
    refine x_if_ne 150 d_Md_odds_139 (by decide) (fun c16 => ?_) (fun c16 => ?_)
    · replace h := xpos c16 h
      refine x_iload 1 d_Md_odds_150 rfl ?_
      refine x_iload 3 d_Md_odds_152 rfl ?_
      obtain ⟨c17, h⟩ := xguard h
      refine x_idiv d_Md_odds_154 c17 ?_
      obtain rfl := Option.some.inj h
      exact x_ireturn rfl d_Md_odds_155 (Nat.le_refl _) (Nat.le_refl _) ⟨rfl, rfl⟩
    · replace h := xneg c16 h
      refine x_iload 2 d_Md_odds_142 rfl ?_
      refine x_iload 3 d_Md_odds_144 rfl ?_
      obtain ⟨c18, h⟩ := xguard h
      refine x_idiv d_Md_odds_146 c18 ?_
      refine x_goto 155 d_Md_odds_147 (by decide) ?_
      obtain rfl := Option.some.inj h
      exact x_ireturn rfl d_Md_odds_155 (Nat.le_refl _) (Nat.le_refl _) ⟨rfl, rfl⟩
  · replace h := xneg c15 h
    refine x_iload 3 d_Md_odds_120 rfl ?_
    refine x_iload 4 d_Md_odds_122 rfl ?_
    obtain ⟨c19, h⟩ := xguard h
    refine x_irem2 d_Md_odds_124 c19 ?_
    refine x_istore [(8, .int (xrem v6 v7)), (3, .int v3), (4, .int v4), (5, .int v5), (6, .int v6), (7, .int v7)] d_Md_odds_125 (Nat.le_of_ble_eq_true rfl) rfl ?_
    refine x_iload 5 d_Md_odds_127 rfl ?_
    refine x_istore [(6, .int v7), (8, .int (xrem v6 v7)), (3, .int v3), (4, .int v4), (5, .int v5), (7, .int v7)] d_Md_odds_129 (Nat.le_of_ble_eq_true rfl) rfl ?_
    refine x_iload 1 d_Md_odds_131 rfl ?_
    refine x_istore [(7, .int (xrem v6 v7)), (6, .int v7), (8, .int (xrem v6 v7)), (3, .int v3), (4, .int v4), (5, .int v5)] d_Md_odds_133 (Nat.le_of_ble_eq_true rfl) rfl ?_
    refine x_goto 115 d_Md_odds_135 (by decide) ?_
    refine x_pick [3, 4, 5, 1, 0] rfl ?_
    exact hk115 v3 v4 v5 v7 (xrem v6 v7) V L h
def g_Md_odds_115  : Nat → Int32 → Int32 → Int32 → Int32 → Int32 → xV → xL → Option (Int32 × xV × xL)
  | 0, _, _, _, _, _, _, _ => none
  | n + 1, v3, v4, v5, v6, v7, V, L => b_Md_odds_115 (g_Md_odds_115  n) v3 v4 v5 v6 v7 V L
theorem tg_Md_odds_115  (res : Int32 × xV × xL)  : ∀ (n : Nat) (v3 : Int32) (v4 : Int32) (v5 : Int32) (v6 : Int32) (v7 : Int32) (V : xV) (L : xL), g_Md_odds_115  n v3 v4 v5 v6 v7 V L = some res → X M_Md_odds (xRm (7) M_Md_odds) (xZ M_Md_odds (fun o h' => o = some (.int res.1) ∧ h' = (SH, res.2.1, res.2.2))) SH V L 0 0 115 [(3, .int v3), (4, .int v4), (5, .int v5), (6, .int v6), (7, .int v7)] []
  | 0, _, _, _, _, _, _, _, h => by cases h
  | n + 1, v3, v4, v5, v6, v7, V, L, h => tb_Md_odds_115 (g_Md_odds_115  n) res (tg_Md_odds_115 res n) v3 v4 v5 v6 v7 V L h
def b_Md_odds_34 (k34 : Int32 → Int32 → Int32 → Int32 → Int32 → Int32 → xV → xL → Option (Int32 × xV × xL)) (v1 : Int32) (v2 : Int32) (v3 : Int32) (v4 : Int32) (v5 : Int32) (v6 : Int32) (V : xV) (L : xL) : Option (Int32 × xV × xL) := (if 10 ≤ v6 then (if ¬ v4 = 0 then g_Md_odds_115 2000 v3 v4 v5 v4 v5 V L else some ((-1), V, L)) else (Option.bind (f_Md_isAlike v1 v2 v6 V L) fun p9 => (if p9.1 = 0 then k34 v1 v2 v3 v4 v5 (v6 + 1) p9.2.1 p9.2.2 else (if xI (160 + v6) 270 = true then (if v6 < 5 then k34 v1 v2 v3 (v4 + (p9.2.1 66 (160 + v6).toNatClampNeg)) (v5 + 0) (v6 + 1) p9.2.1 p9.2.2 else (if xI (160 + v6) 270 = true then k34 v1 v2 v3 (v4 + (p9.2.1 66 (160 + v6).toNatClampNeg)) (v5 + (p9.2.1 66 (160 + v6).toNatClampNeg)) (v6 + 1) p9.2.1 p9.2.2 else none)) else none))))
theorem tb_Md_odds_34 (k34 : Int32 → Int32 → Int32 → Int32 → Int32 → Int32 → xV → xL → Option (Int32 × xV × xL)) (res : Int32 × xV × xL) (hk34 : ∀ (v1 : Int32) (v2 : Int32) (v3 : Int32) (v4 : Int32) (v5 : Int32) (v6 : Int32) (V : xV) (L : xL), k34 v1 v2 v3 v4 v5 v6 V L = some res → X M_Md_odds (xRm (7) M_Md_odds) (xZ M_Md_odds (fun o h' => o = some (.int res.1) ∧ h' = (SH, res.2.1, res.2.2))) SH V L 0 0 34 [(0, .ref 65), (1, .int v1), (2, .int v2), (3, .int v3), (4, .int v4), (5, .int v5), (6, .int v6)] []) (v1 : Int32) (v2 : Int32) (v3 : Int32) (v4 : Int32) (v5 : Int32) (v6 : Int32) (V : xV) (L : xL) (h : b_Md_odds_34 k34 v1 v2 v3 v4 v5 v6 V L = some res) : X M_Md_odds (xRm (7) M_Md_odds) (xZ M_Md_odds (fun o h' => o = some (.int res.1) ∧ h' = (SH, res.2.1, res.2.2))) SH V L 0 0 34 [(0, .ref 65), (1, .int v1), (2, .int v2), (3, .int v3), (4, .int v4), (5, .int v5), (6, .int v6)] [] := by
  unfold b_Md_odds_34 at h
  refine x_iload 6 d_Md_odds_34 rfl ?_
  refine x_bipush 10 d_Md_odds_36 (by decide) ?_
  refine x_icmp_ge 100 d_Md_odds_38 (by decide) (fun c7 => ?_) (fun c7 => ?_)
  · replace h := xpos c7 h
    refine x_iload 4 d_Md_odds_100 rfl ?_
    refine x_if_ne 107 d_Md_odds_102 (by decide) (fun c8 => ?_) (fun c8 => ?_)
    · replace h := xpos c8 h
      refine x_iload 4 d_Md_odds_107 rfl ?_
      refine x_istore [(6, .int v4), (0, .ref 65), (1, .int v1), (2, .int v2), (3, .int v3), (4, .int v4), (5, .int v5)] d_Md_odds_109 (Nat.le_of_ble_eq_true rfl) rfl ?_
      refine x_iload 6 d_Md_odds_111 rfl ?_
      refine x_istore [(7, .int v5), (6, .int v4), (0, .ref 65), (1, .int v1), (2, .int v2), (3, .int v3), (4, .int v4), (5, .int v5)] d_Md_odds_113 (Nat.le_of_ble_eq_true rfl) rfl ?_
      refine x_pick [5, 6, 7, 1, 0] rfl ?_
      exact tg_Md_odds_115 res _ v3 v4 v5 v4 v5 V L h
    · replace h := xneg c8 h
      refine x_iconst (-1) d_Md_odds_105 (by decide) ?_
      obtain rfl := Option.some.inj h
      exact x_ireturn rfl d_Md_odds_106 (Nat.le_refl _) (Nat.le_refl _) ⟨rfl, rfl⟩
  · replace h := xneg c7 h
    refine x_aload_n 0 d_Md_odds_41 rfl rfl ?_
    refine x_iload_n 1 d_Md_odds_42 rfl rfl ?_
    refine x_iload_n 2 d_Md_odds_43 rfl rfl ?_
    refine x_iload 6 d_Md_odds_44 rfl ?_
    obtain ⟨p9, e10, h⟩ := xbind h
    refine x_callV0 e_Md_349 sh_65 rfl (t_Md_isAlike v1 v2 v6 V L _ e10) rfl rfl rfl (Nat.le_of_ble_eq_true rfl) (xfit_of (by omega) (Nat.le_of_ble_eq_true rfl)) (Nat.zero_le _) (Nat.zero_le _) d_Md_odds_46 ?_
    refine x_if_eq 94 d_Md_odds_49 (by decide) (fun c11 => ?_) (fun c11 => ?_)
    · replace h := xpos c11 h
      refine x_iinc 6 1 [(6, .int (v6 + 1)), (0, .ref 65), (1, .int v1), (2, .int v2), (3, .int v3), (4, .int v4), (5, .int v5)] d_Md_odds_94 rfl (by decide) (Nat.le_of_ble_eq_true rfl) rfl ?_
      refine x_goto 34 d_Md_odds_97 (by decide) ?_
      refine x_pick [1, 2, 3, 4, 5, 6, 0] rfl ?_
      exact hk34 v1 v2 v3 v4 v5 (v6 + 1) p9.2.1 p9.2.2 h
    · replace h := xneg c11 h
      refine x_iload 4 d_Md_odds_52 rfl ?_
      refine x_aload_n 0 d_Md_odds_54 rfl rfl ?_
      refine x_getP (q := 66) f_Md_7 sh_65 rfl d_Md_odds_55 ?_
      refine x_sipush 160 d_Md_odds_58 (by decide) ?_
      refine x_iload 6 d_Md_odds_61 rfl ?_
      refine x_iadd d_Md_odds_63 ?_
      obtain ⟨c12, h⟩ := xguard h
      refine x_iaload sh_66 c12 d_Md_odds_64 ?_
      refine x_iadd d_Md_odds_65 ?_
      refine x_istore [(4, .int (v4 + (p9.2.1 66 (160 + v6).toNatClampNeg))), (0, .ref 65), (1, .int v1), (2, .int v2), (3, .int v3), (5, .int v5), (6, .int v6)] d_Md_odds_66 (Nat.le_of_ble_eq_true rfl) rfl ?_
      refine x_iload 5 d_Md_odds_68 rfl ?_
      refine x_iload 6 d_Md_odds_70 rfl ?_
      refine x_iconst 5 d_Md_odds_72 (by decide) ?_
      refine x_icmp_lt 90 d_Md_odds_73 (by decide) (fun c13 => ?_) (fun c13 => ?_)
      · replace h := xpos c13 h
        refine x_iconst 0 d_Md_odds_90 (by decide) ?_
        refine x_iadd d_Md_odds_91 ?_
        refine x_istore [(5, .int (v5 + 0)), (4, .int (v4 + (p9.2.1 66 (160 + v6).toNatClampNeg))), (0, .ref 65), (1, .int v1), (2, .int v2), (3, .int v3), (6, .int v6)] d_Md_odds_92 (Nat.le_of_ble_eq_true rfl) rfl ?_
        refine x_iinc 6 1 [(6, .int (v6 + 1)), (5, .int (v5 + 0)), (4, .int (v4 + (p9.2.1 66 (160 + v6).toNatClampNeg))), (0, .ref 65), (1, .int v1), (2, .int v2), (3, .int v3)] d_Md_odds_94 rfl (by decide) (Nat.le_of_ble_eq_true rfl) rfl ?_
        refine x_goto 34 d_Md_odds_97 (by decide) ?_
        refine x_pick [3, 4, 5, 6, 2, 1, 0] rfl ?_
        exact hk34 v1 v2 v3 (v4 + (p9.2.1 66 (160 + v6).toNatClampNeg)) (v5 + 0) (v6 + 1) p9.2.1 p9.2.2 h
      · replace h := xneg c13 h
        refine x_aload_n 1 d_Md_odds_76 rfl rfl ?_
        refine x_getP (q := 66) f_Md_7 sh_65 rfl d_Md_odds_77 ?_
        refine x_sipush 160 d_Md_odds_80 (by decide) ?_
        refine x_iload 6 d_Md_odds_83 rfl ?_
        refine x_iadd d_Md_odds_85 ?_
        obtain ⟨c14, h⟩ := xguard h
        refine x_iaload sh_66 c14 d_Md_odds_86 ?_
        refine x_goto 91 d_Md_odds_87 (by decide) ?_
        refine x_iadd d_Md_odds_91 ?_
        refine x_istore [(5, .int (v5 + (p9.2.1 66 (160 + v6).toNatClampNeg))), (4, .int (v4 + (p9.2.1 66 (160 + v6).toNatClampNeg))), (0, .ref 65), (1, .int v1), (2, .int v2), (3, .int v3), (6, .int v6)] d_Md_odds_92 (Nat.le_of_ble_eq_true rfl) rfl ?_
        refine x_iinc 6 1 [(6, .int (v6 + 1)), (5, .int (v5 + (p9.2.1 66 (160 + v6).toNatClampNeg))), (4, .int (v4 + (p9.2.1 66 (160 + v6).toNatClampNeg))), (0, .ref 65), (1, .int v1), (2, .int v2), (3, .int v3)] d_Md_odds_94 rfl (by decide) (Nat.le_of_ble_eq_true rfl) rfl ?_
        refine x_goto 34 d_Md_odds_97 (by decide) ?_
        refine x_pick [3, 4, 5, 6, 2, 1, 0] rfl ?_
        exact hk34 v1 v2 v3 (v4 + (p9.2.1 66 (160 + v6).toNatClampNeg)) (v5 + (p9.2.1 66 (160 + v6).toNatClampNeg)) (v6 + 1) p9.2.1 p9.2.2 h
def g_Md_odds_34  : Nat → Int32 → Int32 → Int32 → Int32 → Int32 → Int32 → xV → xL → Option (Int32 × xV × xL)
  | 0, _, _, _, _, _, _, _, _ => none
  | n + 1, v1, v2, v3, v4, v5, v6, V, L => b_Md_odds_34 (g_Md_odds_34  n) v1 v2 v3 v4 v5 v6 V L
theorem tg_Md_odds_34  (res : Int32 × xV × xL)  : ∀ (n : Nat) (v1 : Int32) (v2 : Int32) (v3 : Int32) (v4 : Int32) (v5 : Int32) (v6 : Int32) (V : xV) (L : xL), g_Md_odds_34  n v1 v2 v3 v4 v5 v6 V L = some res → X M_Md_odds (xRm (7) M_Md_odds) (xZ M_Md_odds (fun o h' => o = some (.int res.1) ∧ h' = (SH, res.2.1, res.2.2))) SH V L 0 0 34 [(0, .ref 65), (1, .int v1), (2, .int v2), (3, .int v3), (4, .int v4), (5, .int v5), (6, .int v6)] []
  | 0, _, _, _, _, _, _, _, _, h => by cases h
  | n + 1, v1, v2, v3, v4, v5, v6, V, L, h => tb_Md_odds_34 (g_Md_odds_34  n) res (tg_Md_odds_34 res n) v1 v2 v3 v4 v5 v6 V L h
def f_Md_odds (a1 : Int32) (a2 : Int32) (a3 : Int32) (V : xV) (L : xL) : Option (Int32 × xV × xL) := (if (f_Md_isDay a1) = 0 then some ((-1), V, L) else (if (f_Md_isProvince a2) = 0 then some ((-1), V, L) else (if ¬ (f_Md_in a3 0 1) = 0 then g_Md_odds_34 2000 a1 a2 a3 0 0 0 V L else some ((-1), V, L))))
theorem t_Md_odds (a1 : Int32) (a2 : Int32) (a3 : Int32) (V : xV) (L : xL) (res : Int32 × xV × xL) (h : f_Md_odds a1 a2 a3 V L = some res) : xRuns (7) M_Md_odds [.ref 65, .int a1, .int a2, .int a3] (SH, V, L) (fun o h' => o = some (.int res.1) ∧ h' = (SH, res.2.1, res.2.2)) := by
  refine xRuns_of (by decide) (Nat.le_of_ble_eq_true rfl) ?_
  unfold f_Md_odds at h
  show X M_Md_odds (xRm (7) M_Md_odds) (xZ M_Md_odds (fun o h' => o = some (.int res.1) ∧ h' = (SH, res.2.1, res.2.2))) SH V L 0 0 0 [(0, .ref 65), (1, .int a1), (2, .int a2), (3, .int a3)] []
  refine x_iload_n 1 d_Md_odds_0 rfl rfl ?_
  refine x_callS0 e_Md_97 (t_Md_isDay a1 V L _ rfl) rfl rfl rfl (Nat.le_of_ble_eq_true rfl) (xfit_of (by omega) (Nat.le_of_ble_eq_true rfl)) (Nat.zero_le _) (Nat.zero_le _) d_Md_odds_1 ?_
  refine x_if_eq 23 d_Md_odds_4 (by decide) (fun c2 => ?_) (fun c2 => ?_)
  · replace h := xpos c2 h
    refine x_iconst (-1) d_Md_odds_23 (by decide) ?_
    obtain rfl := Option.some.inj h
    exact x_ireturn rfl d_Md_odds_24 (Nat.le_refl _) (Nat.le_refl _) ⟨rfl, rfl⟩
  · replace h := xneg c2 h
    refine x_iload_n 2 d_Md_odds_7 rfl rfl ?_
    refine x_callS0 e_Md_93 (t_Md_isProvince a2 V L _ rfl) rfl rfl rfl (Nat.le_of_ble_eq_true rfl) (xfit_of (by omega) (Nat.le_of_ble_eq_true rfl)) (Nat.zero_le _) (Nat.zero_le _) d_Md_odds_8 ?_
    refine x_if_eq 23 d_Md_odds_11 (by decide) (fun c4 => ?_) (fun c4 => ?_)
    · replace h := xpos c4 h
      refine x_iconst (-1) d_Md_odds_23 (by decide) ?_
      obtain rfl := Option.some.inj h
      exact x_ireturn rfl d_Md_odds_24 (Nat.le_refl _) (Nat.le_refl _) ⟨rfl, rfl⟩
    · replace h := xneg c4 h
      refine x_iload_n 3 d_Md_odds_14 rfl rfl ?_
      refine x_iconst 0 d_Md_odds_15 (by decide) ?_
      refine x_iconst 1 d_Md_odds_16 (by decide) ?_
      refine x_callS0 e_Md_89 (t_Md_in a3 0 1 V L _ rfl) rfl rfl rfl (Nat.le_of_ble_eq_true rfl) (xfit_of (by omega) (Nat.le_of_ble_eq_true rfl)) (Nat.zero_le _) (Nat.zero_le _) d_Md_odds_17 ?_
      refine x_if_ne 25 d_Md_odds_20 (by decide) (fun c6 => ?_) (fun c6 => ?_)
      · replace h := xpos c6 h
        refine x_iconst 0 d_Md_odds_25 (by decide) ?_
        refine x_istore [(4, .int 0), (0, .ref 65), (1, .int a1), (2, .int a2), (3, .int a3)] d_Md_odds_26 (Nat.le_of_ble_eq_true rfl) rfl ?_
        refine x_iconst 0 d_Md_odds_28 (by decide) ?_
        refine x_istore [(5, .int 0), (4, .int 0), (0, .ref 65), (1, .int a1), (2, .int a2), (3, .int a3)] d_Md_odds_29 (Nat.le_of_ble_eq_true rfl) rfl ?_
        refine x_iconst 0 d_Md_odds_31 (by decide) ?_
        refine x_istore [(6, .int 0), (5, .int 0), (4, .int 0), (0, .ref 65), (1, .int a1), (2, .int a2), (3, .int a3)] d_Md_odds_32 (Nat.le_of_ble_eq_true rfl) rfl ?_
        refine x_pick [3, 4, 5, 6, 2, 1, 0] rfl ?_
        exact tg_Md_odds_34 res _ a1 a2 a3 0 0 0 V L h
      · replace h := xneg c6 h
        refine x_iconst (-1) d_Md_odds_23 (by decide) ?_
        obtain rfl := Option.some.inj h
        exact x_ireturn rfl d_Md_odds_24 (Nat.le_refl _) (Nat.le_refl _) ⟨rfl, rfl⟩
-- Md_gainBy
def b_Md_gainBy_6 (k6 : Int32 → Int32 → Int32 → Int32 → Int32 → xV → xL → Option (Int32 × xV × xL)) (v1 : Int32) (v2 : Int32) (v3 : Int32) (v4 : Int32) (v5 : Int32) (V : xV) (L : xL) : Option (Int32 × xV × xL) := (if (V 66 0) ≤ v5 then some (v4, V, L) else (Option.bind (f_Md_provinceOf v5 V) fun p2 => (if ¬ p2 = v1 then k6 v1 v2 v3 (v4 + 0) (v5 + 1) V L else (if xI (10 + v2) 270 = true then (Option.bind (f_Md_gainOf v5 v2 (V 66 (10 + v2).toNatClampNeg) v3 0 V L) fun p6 => k6 v1 v2 v3 (v4 + p6.1) (v5 + 1) p6.2.1 p6.2.2) else none))))
theorem tb_Md_gainBy_6 (k6 : Int32 → Int32 → Int32 → Int32 → Int32 → xV → xL → Option (Int32 × xV × xL)) (res : Int32 × xV × xL) (hk6 : ∀ (v1 : Int32) (v2 : Int32) (v3 : Int32) (v4 : Int32) (v5 : Int32) (V : xV) (L : xL), k6 v1 v2 v3 v4 v5 V L = some res → X M_Md_gainBy (xRm (10) M_Md_gainBy) (xZ M_Md_gainBy (fun o h' => o = some (.int res.1) ∧ h' = (SH, res.2.1, res.2.2))) SH V L 0 0 6 [(0, .ref 65), (1, .int v1), (2, .int v2), (3, .int v3), (4, .int v4), (5, .int v5)] []) (v1 : Int32) (v2 : Int32) (v3 : Int32) (v4 : Int32) (v5 : Int32) (V : xV) (L : xL) (h : b_Md_gainBy_6 k6 v1 v2 v3 v4 v5 V L = some res) : X M_Md_gainBy (xRm (10) M_Md_gainBy) (xZ M_Md_gainBy (fun o h' => o = some (.int res.1) ∧ h' = (SH, res.2.1, res.2.2))) SH V L 0 0 6 [(0, .ref 65), (1, .int v1), (2, .int v2), (3, .int v3), (4, .int v4), (5, .int v5)] [] := by
  unfold b_Md_gainBy_6 at h
  refine x_iload 5 d_Md_gainBy_6 rfl ?_
  refine x_aload_n 0 d_Md_gainBy_8 rfl rfl ?_
  refine x_getP (q := 66) f_Md_7 sh_65 rfl d_Md_gainBy_9 ?_
  refine x_iconst 0 d_Md_gainBy_12 (by decide) ?_
  refine x_ialoadC 0 sh_66 (by decide) (by decide) d_Md_gainBy_13 ?_
  refine x_icmp_ge 60 d_Md_gainBy_14 (by decide) (fun c1 => ?_) (fun c1 => ?_)
  · replace h := xpos c1 h
    refine x_iload 4 d_Md_gainBy_60 rfl ?_
    obtain rfl := Option.some.inj h
    exact x_ireturn rfl d_Md_gainBy_62 (Nat.le_refl _) (Nat.le_refl _) ⟨rfl, rfl⟩
  · replace h := xneg c1 h
    refine x_iload 4 d_Md_gainBy_17 rfl ?_
    refine x_aload_n 0 d_Md_gainBy_19 rfl rfl ?_
    refine x_iload 5 d_Md_gainBy_20 rfl ?_
    obtain ⟨p2, e3, h⟩ := xbind h
    refine x_callV0 e_Md_304 sh_65 rfl (t_Md_provinceOf v5 V L _ e3) rfl rfl rfl (Nat.le_of_ble_eq_true rfl) (xfit_of (by omega) (Nat.le_of_ble_eq_true rfl)) (Nat.zero_le _) (Nat.zero_le _) d_Md_gainBy_22 ?_
    refine x_iload_n 1 d_Md_gainBy_25 rfl rfl ?_
    refine x_icmp_ne 50 d_Md_gainBy_26 (by decide) (fun c4 => ?_) (fun c4 => ?_)
    · replace h := xpos c4 h
      refine x_iconst 0 d_Md_gainBy_50 (by decide) ?_
      refine x_iadd d_Md_gainBy_51 ?_
      refine x_istore [(4, .int (v4 + 0)), (0, .ref 65), (1, .int v1), (2, .int v2), (3, .int v3), (5, .int v5)] d_Md_gainBy_52 (Nat.le_of_ble_eq_true rfl) rfl ?_
      refine x_iinc 5 1 [(5, .int (v5 + 1)), (4, .int (v4 + 0)), (0, .ref 65), (1, .int v1), (2, .int v2), (3, .int v3)] d_Md_gainBy_54 rfl (by decide) (Nat.le_of_ble_eq_true rfl) rfl ?_
      refine x_goto 6 d_Md_gainBy_57 (by decide) ?_
      refine x_pick [2, 3, 4, 5, 1, 0] rfl ?_
      exact hk6 v1 v2 v3 (v4 + 0) (v5 + 1) V L h
    · replace h := xneg c4 h
      refine x_aload_n 0 d_Md_gainBy_29 rfl rfl ?_
      refine x_iload 5 d_Md_gainBy_30 rfl ?_
      refine x_iload_n 2 d_Md_gainBy_32 rfl rfl ?_
      refine x_aload_n 0 d_Md_gainBy_33 rfl rfl ?_
      refine x_getP (q := 66) f_Md_7 sh_65 rfl d_Md_gainBy_34 ?_
      refine x_bipush 10 d_Md_gainBy_37 (by decide) ?_
      refine x_iload_n 2 d_Md_gainBy_39 rfl rfl ?_
      refine x_iadd d_Md_gainBy_40 ?_
      obtain ⟨c5, h⟩ := xguard h
      refine x_iaload sh_66 c5 d_Md_gainBy_41 ?_
      refine x_iload_n 3 d_Md_gainBy_42 rfl rfl ?_
      refine x_iconst 0 d_Md_gainBy_43 (by decide) ?_
      obtain ⟨p6, e7, h⟩ := xbind h
      refine x_callV0 e_Md_329 sh_65 rfl (t_Md_gainOf v5 v2 (V 66 (10 + v2).toNatClampNeg) v3 0 V L _ e7) rfl rfl rfl (Nat.le_of_ble_eq_true rfl) (xfit_of (by omega) (Nat.le_of_ble_eq_true rfl)) (Nat.zero_le _) (Nat.zero_le _) d_Md_gainBy_44 ?_
      refine x_goto 51 d_Md_gainBy_47 (by decide) ?_
      refine x_iadd d_Md_gainBy_51 ?_
      refine x_istore [(4, .int (v4 + p6.1)), (0, .ref 65), (1, .int v1), (2, .int v2), (3, .int v3), (5, .int v5)] d_Md_gainBy_52 (Nat.le_of_ble_eq_true rfl) rfl ?_
      refine x_iinc 5 1 [(5, .int (v5 + 1)), (4, .int (v4 + p6.1)), (0, .ref 65), (1, .int v1), (2, .int v2), (3, .int v3)] d_Md_gainBy_54 rfl (by decide) (Nat.le_of_ble_eq_true rfl) rfl ?_
      refine x_goto 6 d_Md_gainBy_57 (by decide) ?_
      refine x_pick [2, 3, 4, 5, 1, 0] rfl ?_
      exact hk6 v1 v2 v3 (v4 + p6.1) (v5 + 1) p6.2.1 p6.2.2 h
def g_Md_gainBy_6  : Nat → Int32 → Int32 → Int32 → Int32 → Int32 → xV → xL → Option (Int32 × xV × xL)
  | 0, _, _, _, _, _, _, _ => none
  | n + 1, v1, v2, v3, v4, v5, V, L => b_Md_gainBy_6 (g_Md_gainBy_6  n) v1 v2 v3 v4 v5 V L
theorem tg_Md_gainBy_6  (res : Int32 × xV × xL)  : ∀ (n : Nat) (v1 : Int32) (v2 : Int32) (v3 : Int32) (v4 : Int32) (v5 : Int32) (V : xV) (L : xL), g_Md_gainBy_6  n v1 v2 v3 v4 v5 V L = some res → X M_Md_gainBy (xRm (10) M_Md_gainBy) (xZ M_Md_gainBy (fun o h' => o = some (.int res.1) ∧ h' = (SH, res.2.1, res.2.2))) SH V L 0 0 6 [(0, .ref 65), (1, .int v1), (2, .int v2), (3, .int v3), (4, .int v4), (5, .int v5)] []
  | 0, _, _, _, _, _, _, _, h => by cases h
  | n + 1, v1, v2, v3, v4, v5, V, L, h => tb_Md_gainBy_6 (g_Md_gainBy_6  n) res (tg_Md_gainBy_6 res n) v1 v2 v3 v4 v5 V L h
def f_Md_gainBy (a1 : Int32) (a2 : Int32) (a3 : Int32) (V : xV) (L : xL) : Option (Int32 × xV × xL) := g_Md_gainBy_6 2000 a1 a2 a3 0 0 V L
theorem t_Md_gainBy (a1 : Int32) (a2 : Int32) (a3 : Int32) (V : xV) (L : xL) (res : Int32 × xV × xL) (h : f_Md_gainBy a1 a2 a3 V L = some res) : xRuns (10) M_Md_gainBy [.ref 65, .int a1, .int a2, .int a3] (SH, V, L) (fun o h' => o = some (.int res.1) ∧ h' = (SH, res.2.1, res.2.2)) := by
  refine xRuns_of (by decide) (Nat.le_of_ble_eq_true rfl) ?_
  unfold f_Md_gainBy at h
  show X M_Md_gainBy (xRm (10) M_Md_gainBy) (xZ M_Md_gainBy (fun o h' => o = some (.int res.1) ∧ h' = (SH, res.2.1, res.2.2))) SH V L 0 0 0 [(0, .ref 65), (1, .int a1), (2, .int a2), (3, .int a3)] []
  refine x_iconst 0 d_Md_gainBy_0 (by decide) ?_
  refine x_istore [(4, .int 0), (0, .ref 65), (1, .int a1), (2, .int a2), (3, .int a3)] d_Md_gainBy_1 (Nat.le_of_ble_eq_true rfl) rfl ?_
  refine x_iconst 0 d_Md_gainBy_3 (by decide) ?_
  refine x_istore [(5, .int 0), (4, .int 0), (0, .ref 65), (1, .int a1), (2, .int a2), (3, .int a3)] d_Md_gainBy_4 (Nat.le_of_ble_eq_true rfl) rfl ?_
  refine x_pick [2, 3, 4, 5, 1, 0] rfl ?_
  exact tg_Md_gainBy_6 res _ a1 a2 a3 0 0 V L h
