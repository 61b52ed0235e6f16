theorem d_Md_rank_0 : decode M_Md_rank.2.1 0 = .ok (.iload_n 0, 1) := by decide +kernel
theorem d_Md_rank_1 : decode M_Md_rank.2.1 1 = .ok (.sipush 407, 3) := by decide +kernel
theorem d_Md_rank_4 : decode M_Md_rank.2.1 4 = .ok (.if_icmp .ne 7, 3) := by decide +kernel
theorem d_Md_rank_7 : decode M_Md_rank.2.1 7 = .ok (.iconst 1, 1) := by decide +kernel
theorem d_Md_rank_8 : decode M_Md_rank.2.1 8 = .ok (.goto 31, 3) := by decide +kernel
theorem d_Md_rank_11 : decode M_Md_rank.2.1 11 = .ok (.iload_n 0, 1) := by decide +kernel
theorem d_Md_rank_12 : decode M_Md_rank.2.1 12 = .ok (.sipush 406, 3) := by decide +kernel
theorem d_Md_rank_15 : decode M_Md_rank.2.1 15 = .ok (.if_icmp .ne 7, 3) := by decide +kernel
theorem d_Md_rank_18 : decode M_Md_rank.2.1 18 = .ok (.iconst 2, 1) := by decide +kernel
theorem d_Md_rank_19 : decode M_Md_rank.2.1 19 = .ok (.goto 20, 3) := by decide +kernel
theorem d_Md_rank_22 : decode M_Md_rank.2.1 22 = .ok (.iload_n 0, 1) := by decide +kernel
theorem d_Md_rank_23 : decode M_Md_rank.2.1 23 = .ok (.bipush 43, 2) := by decide +kernel
theorem d_Md_rank_25 : decode M_Md_rank.2.1 25 = .ok (.if_icmp .eq 9, 3) := by decide +kernel
theorem d_Md_rank_28 : decode M_Md_rank.2.1 28 = .ok (.iload_n 0, 1) := by decide +kernel
theorem d_Md_rank_29 : decode M_Md_rank.2.1 29 = .ok (.bipush 45, 2) := by decide +kernel
theorem d_Md_rank_31 : decode M_Md_rank.2.1 31 = .ok (.if_icmp .ne 7, 3) := by decide +kernel
theorem d_Md_rank_34 : decode M_Md_rank.2.1 34 = .ok (.iconst 3, 1) := by decide +kernel
theorem d_Md_rank_35 : decode M_Md_rank.2.1 35 = .ok (.goto 4, 3) := by decide +kernel
theorem d_Md_rank_38 : decode M_Md_rank.2.1 38 = .ok (.iconst 4, 1) := by decide +kernel
theorem d_Md_rank_39 : decode M_Md_rank.2.1 39 = .ok (.ireturn, 1) := by decide +kernel
theorem d_Md_works_0 : decode M_Md_works.2.1 0 = .ok (.aload_n 0, 1) := by decide +kernel
theorem d_Md_works_1 : decode M_Md_works.2.1 1 = .ok (.getfield 207, 3) := by decide +kernel
theorem d_Md_works_4 : decode M_Md_works.2.1 4 = .ok (.ifCond .le 66, 3) := by decide +kernel
theorem d_Md_works_7 : decode M_Md_works.2.1 7 = .ok (.aload_n 0, 1) := by decide +kernel
theorem d_Md_works_8 : decode M_Md_works.2.1 8 = .ok (.getfield 51, 3) := by decide +kernel
theorem d_Md_works_11 : decode M_Md_works.2.1 11 = .ok (.aload_n 0, 1) := by decide +kernel
theorem d_Md_works_12 : decode M_Md_works.2.1 12 = .ok (.getfield 207, 3) := by decide +kernel
theorem d_Md_works_15 : decode M_Md_works.2.1 15 = .ok (.iconst 1, 1) := by decide +kernel
theorem d_Md_works_16 : decode M_Md_works.2.1 16 = .ok (.isub, 1) := by decide +kernel
theorem d_Md_works_17 : decode M_Md_works.2.1 17 = .ok (.iaload, 1) := by decide +kernel
theorem d_Md_works_18 : decode M_Md_works.2.1 18 = .ok (.aload_n 0, 1) := by decide +kernel
theorem d_Md_works_19 : decode M_Md_works.2.1 19 = .ok (.getfield 192, 3) := by decide +kernel
theorem d_Md_works_22 : decode M_Md_works.2.1 22 = .ok (.if_icmp .ne 48, 3) := by decide +kernel
theorem d_Md_works_25 : decode M_Md_works.2.1 25 = .ok (.aload_n 0, 1) := by decide +kernel
theorem d_Md_works_26 : decode M_Md_works.2.1 26 = .ok (.getfield 48, 3) := by decide +kernel
theorem d_Md_works_29 : decode M_Md_works.2.1 29 = .ok (.aload_n 0, 1) := by decide +kernel
theorem d_Md_works_30 : decode M_Md_works.2.1 30 = .ok (.getfield 207, 3) := by decide +kernel
theorem d_Md_works_33 : decode M_Md_works.2.1 33 = .ok (.iconst 1, 1) := by decide +kernel
theorem d_Md_works_34 : decode M_Md_works.2.1 34 = .ok (.isub, 1) := by decide +kernel
theorem d_Md_works_35 : decode M_Md_works.2.1 35 = .ok (.iaload, 1) := by decide +kernel
theorem d_Md_works_36 : decode M_Md_works.2.1 36 = .ok (.invokestatic 210, 3) := by decide +kernel
theorem d_Md_works_39 : decode M_Md_works.2.1 39 = .ok (.iload_n 1, 1) := by decide +kernel
theorem d_Md_works_40 : decode M_Md_works.2.1 40 = .ok (.if_icmp .lt 30, 3) := by decide +kernel
theorem d_Md_works_43 : decode M_Md_works.2.1 43 = .ok (.aload_n 0, 1) := by decide +kernel
theorem d_Md_works_44 : decode M_Md_works.2.1 44 = .ok (.dup, 1) := by decide +kernel
theorem d_Md_works_45 : decode M_Md_works.2.1 45 = .ok (.getfield 207, 3) := by decide +kernel
theorem d_Md_works_48 : decode M_Md_works.2.1 48 = .ok (.iconst 1, 1) := by decide +kernel
theorem d_Md_works_49 : decode M_Md_works.2.1 49 = .ok (.isub, 1) := by decide +kernel
theorem d_Md_works_50 : decode M_Md_works.2.1 50 = .ok (.putfield 207, 3) := by decide +kernel
theorem d_Md_works_53 : decode M_Md_works.2.1 53 = .ok (.aload_n 0, 1) := by decide +kernel
theorem d_Md_works_54 : decode M_Md_works.2.1 54 = .ok (.aload_n 0, 1) := by decide +kernel
theorem d_Md_works_55 : decode M_Md_works.2.1 55 = .ok (.getfield 48, 3) := by decide +kernel
theorem d_Md_works_58 : decode M_Md_works.2.1 58 = .ok (.aload_n 0, 1) := by decide +kernel
theorem d_Md_works_59 : decode M_Md_works.2.1 59 = .ok (.getfield 207, 3) := by decide +kernel
theorem d_Md_works_62 : decode M_Md_works.2.1 62 = .ok (.iaload, 1) := by decide +kernel
theorem d_Md_works_63 : decode M_Md_works.2.1 63 = .ok (.iconst 0, 1) := by decide +kernel
theorem d_Md_works_64 : decode M_Md_works.2.1 64 = .ok (.invokevirtual 214, 3) := by decide +kernel
theorem d_Md_works_67 : decode M_Md_works.2.1 67 = .ok (.goto (-67), 3) := by decide +kernel
theorem d_Md_works_70 : decode M_Md_works.2.1 70 = .ok (.return_, 1) := by decide +kernel
theorem d_Md_waitsFor_0 : decode M_Md_waitsFor.2.1 0 = .ok (.aload_n 0, 1) := by decide +kernel
theorem d_Md_waitsFor_1 : decode M_Md_waitsFor.2.1 1 = .ok (.iload_n 1, 1) := by decide +kernel
theorem d_Md_waitsFor_2 : decode M_Md_waitsFor.2.1 2 = .ok (.invokestatic 210, 3) := by decide +kernel
theorem d_Md_waitsFor_5 : decode M_Md_waitsFor.2.1 5 = .ok (.invokevirtual 218, 3) := by decide +kernel
theorem d_Md_waitsFor_8 : decode M_Md_waitsFor.2.1 8 = .ok (.aload_n 0, 1) := by decide +kernel
theorem d_Md_waitsFor_9 : decode M_Md_waitsFor.2.1 9 = .ok (.getfield 48, 3) := by decide +kernel
theorem d_Md_waitsFor_12 : decode M_Md_waitsFor.2.1 12 = .ok (.aload_n 0, 1) := by decide +kernel
theorem d_Md_waitsFor_13 : decode M_Md_waitsFor.2.1 13 = .ok (.getfield 207, 3) := by decide +kernel
theorem d_Md_waitsFor_16 : decode M_Md_waitsFor.2.1 16 = .ok (.iload_n 1, 1) := by decide +kernel
theorem d_Md_waitsFor_17 : decode M_Md_waitsFor.2.1 17 = .ok (.iastore, 1) := by decide +kernel
theorem d_Md_waitsFor_18 : decode M_Md_waitsFor.2.1 18 = .ok (.aload_n 0, 1) := by decide +kernel
theorem d_Md_waitsFor_19 : decode M_Md_waitsFor.2.1 19 = .ok (.getfield 51, 3) := by decide +kernel
theorem d_Md_waitsFor_22 : decode M_Md_waitsFor.2.1 22 = .ok (.aload_n 0, 1) := by decide +kernel
theorem d_Md_waitsFor_23 : decode M_Md_waitsFor.2.1 23 = .ok (.getfield 207, 3) := by decide +kernel
theorem d_Md_waitsFor_26 : decode M_Md_waitsFor.2.1 26 = .ok (.aload_n 0, 1) := by decide +kernel
theorem d_Md_waitsFor_27 : decode M_Md_waitsFor.2.1 27 = .ok (.getfield 192, 3) := by decide +kernel
theorem d_Md_waitsFor_30 : decode M_Md_waitsFor.2.1 30 = .ok (.iastore, 1) := by decide +kernel
theorem d_Md_waitsFor_31 : decode M_Md_waitsFor.2.1 31 = .ok (.aload_n 0, 1) := by decide +kernel
theorem d_Md_waitsFor_32 : decode M_Md_waitsFor.2.1 32 = .ok (.dup, 1) := by decide +kernel
theorem d_Md_waitsFor_33 : decode M_Md_waitsFor.2.1 33 = .ok (.getfield 207, 3) := by decide +kernel
theorem d_Md_waitsFor_36 : decode M_Md_waitsFor.2.1 36 = .ok (.iconst 1, 1) := by decide +kernel
theorem d_Md_waitsFor_37 : decode M_Md_waitsFor.2.1 37 = .ok (.iadd, 1) := by decide +kernel
theorem d_Md_waitsFor_38 : decode M_Md_waitsFor.2.1 38 = .ok (.putfield 207, 3) := by decide +kernel
theorem d_Md_waitsFor_41 : decode M_Md_waitsFor.2.1 41 = .ok (.aload_n 0, 1) := by decide +kernel
theorem d_Md_waitsFor_42 : decode M_Md_waitsFor.2.1 42 = .ok (.invokevirtual 204, 3) := by decide +kernel
theorem d_Md_waitsFor_45 : decode M_Md_waitsFor.2.1 45 = .ok (.return_, 1) := by decide +kernel
theorem d_Md_isAsking_0 : decode M_Md_isAsking.2.1 0 = .ok (.iload_n 0, 1) := by decide +kernel
theorem d_Md_isAsking_1 : decode M_Md_isAsking.2.1 1 = .ok (.bipush 60, 2) := by decide +kernel
theorem d_Md_isAsking_3 : decode M_Md_isAsking.2.1 3 = .ok (.if_icmp .eq 35, 3) := by decide +kernel
theorem d_Md_isAsking_6 : decode M_Md_isAsking.2.1 6 = .ok (.iload_n 0, 1) := by decide +kernel
theorem d_Md_isAsking_7 : decode M_Md_isAsking.2.1 7 = .ok (.bipush 62, 2) := by decide +kernel
theorem d_Md_isAsking_9 : decode M_Md_isAsking.2.1 9 = .ok (.if_icmp .eq 29, 3) := by decide +kernel
theorem d_Md_isAsking_12 : decode M_Md_isAsking.2.1 12 = .ok (.iload_n 0, 1) := by decide +kernel
theorem d_Md_isAsking_13 : decode M_Md_isAsking.2.1 13 = .ok (.bipush 61, 2) := by decide +kernel
theorem d_Md_isAsking_15 : decode M_Md_isAsking.2.1 15 = .ok (.if_icmp .eq 23, 3) := by decide +kernel
theorem d_Md_isAsking_18 : decode M_Md_isAsking.2.1 18 = .ok (.iload_n 0, 1) := by decide +kernel
theorem d_Md_isAsking_19 : decode M_Md_isAsking.2.1 19 = .ok (.bipush 35, 2) := by decide +kernel
theorem d_Md_isAsking_21 : decode M_Md_isAsking.2.1 21 = .ok (.if_icmp .eq 17, 3) := by decide +kernel
theorem d_Md_isAsking_24 : decode M_Md_isAsking.2.1 24 = .ok (.iload_n 0, 1) := by decide +kernel
theorem d_Md_isAsking_25 : decode M_Md_isAsking.2.1 25 = .ok (.sipush 300, 3) := by decide +kernel
theorem d_Md_isAsking_28 : decode M_Md_isAsking.2.1 28 = .ok (.if_icmp .eq 10, 3) := by decide +kernel
theorem d_Md_isAsking_31 : decode M_Md_isAsking.2.1 31 = .ok (.iload_n 0, 1) := by decide +kernel
theorem d_Md_isAsking_32 : decode M_Md_isAsking.2.1 32 = .ok (.sipush 301, 3) := by decide +kernel
theorem d_Md_isAsking_35 : decode M_Md_isAsking.2.1 35 = .ok (.if_icmp .ne 7, 3) := by decide +kernel
theorem d_Md_isAsking_38 : decode M_Md_isAsking.2.1 38 = .ok (.iconst 1, 1) := by decide +kernel
theorem d_Md_isAsking_39 : decode M_Md_isAsking.2.1 39 = .ok (.goto 4, 3) := by decide +kernel
theorem d_Md_isAsking_42 : decode M_Md_isAsking.2.1 42 = .ok (.iconst 0, 1) := by decide +kernel
theorem d_Md_isAsking_43 : decode M_Md_isAsking.2.1 43 = .ok (.ireturn, 1) := by decide +kernel
theorem d_Md_clauseIsOver_0 : decode M_Md_clauseIsOver.2.1 0 = .ok (.aload_n 0, 1) := by decide +kernel
theorem d_Md_clauseIsOver_1 : decode M_Md_clauseIsOver.2.1 1 = .ok (.iconst 1, 1) := by decide +kernel
theorem d_Md_clauseIsOver_2 : decode M_Md_clauseIsOver.2.1 2 = .ok (.invokevirtual 218, 3) := by decide +kernel
theorem d_Md_clauseIsOver_5 : decode M_Md_clauseIsOver.2.1 5 = .ok (.aload_n 0, 1) := by decide +kernel
theorem d_Md_clauseIsOver_6 : decode M_Md_clauseIsOver.2.1 6 = .ok (.iconst 0, 1) := by decide +kernel
theorem d_Md_clauseIsOver_7 : decode M_Md_clauseIsOver.2.1 7 = .ok (.putfield 192, 3) := by decide +kernel
theorem d_Md_clauseIsOver_10 : decode M_Md_clauseIsOver.2.1 10 = .ok (.aload_n 0, 1) := by decide +kernel
theorem d_Md_clauseIsOver_11 : decode M_Md_clauseIsOver.2.1 11 = .ok (.sipush 408, 3) := by decide +kernel
theorem d_Md_clauseIsOver_14 : decode M_Md_clauseIsOver.2.1 14 = .ok (.iconst 0, 1) := by decide +kernel
theorem d_Md_clauseIsOver_15 : decode M_Md_clauseIsOver.2.1 15 = .ok (.invokevirtual 214, 3) := by decide +kernel
theorem d_Md_clauseIsOver_18 : decode M_Md_clauseIsOver.2.1 18 = .ok (.aload_n 0, 1) := by decide +kernel
theorem d_Md_clauseIsOver_19 : decode M_Md_clauseIsOver.2.1 19 = .ok (.dup, 1) := by decide +kernel
theorem d_Md_clauseIsOver_20 : decode M_Md_clauseIsOver.2.1 20 = .ok (.getfield 257, 3) := by decide +kernel
theorem d_Md_clauseIsOver_23 : decode M_Md_clauseIsOver.2.1 23 = .ok (.iconst 1, 1) := by decide +kernel
theorem d_Md_clauseIsOver_24 : decode M_Md_clauseIsOver.2.1 24 = .ok (.iadd, 1) := by decide +kernel
theorem d_Md_clauseIsOver_25 : decode M_Md_clauseIsOver.2.1 25 = .ok (.putfield 257, 3) := by decide +kernel
theorem d_Md_clauseIsOver_28 : decode M_Md_clauseIsOver.2.1 28 = .ok (.aload_n 0, 1) := by decide +kernel
theorem d_Md_clauseIsOver_29 : decode M_Md_clauseIsOver.2.1 29 = .ok (.invokevirtual 204, 3) := by decide +kernel
theorem d_Md_clauseIsOver_32 : decode M_Md_clauseIsOver.2.1 32 = .ok (.aload_n 0, 1) := by decide +kernel
theorem d_Md_clauseIsOver_33 : decode M_Md_clauseIsOver.2.1 33 = .ok (.iconst 4, 1) := by decide +kernel
theorem d_Md_clauseIsOver_34 : decode M_Md_clauseIsOver.2.1 34 = .ok (.putfield 227, 3) := by decide +kernel
theorem d_Md_clauseIsOver_37 : decode M_Md_clauseIsOver.2.1 37 = .ok (.return_, 1) := by decide +kernel
theorem d_Md_askIsOver_0 : decode M_Md_askIsOver.2.1 0 = .ok (.aload_n 0, 1) := by decide +kernel
theorem d_Md_askIsOver_1 : decode M_Md_askIsOver.2.1 1 = .ok (.invokevirtual 242, 3) := by decide +kernel
theorem d_Md_askIsOver_4 : decode M_Md_askIsOver.2.1 4 = .ok (.iconst 3, 1) := by decide +kernel
theorem d_Md_askIsOver_5 : decode M_Md_askIsOver.2.1 5 = .ok (.if_icmp .ne 34, 3) := by decide +kernel
theorem d_Md_askIsOver_8 : decode M_Md_askIsOver.2.1 8 = .ok (.aload_n 0, 1) := by decide +kernel
theorem d_Md_askIsOver_9 : decode M_Md_askIsOver.2.1 9 = .ok (.dup, 1) := by decide +kernel
theorem d_Md_askIsOver_10 : decode M_Md_askIsOver.2.1 10 = .ok (.getfield 192, 3) := by decide +kernel
theorem d_Md_askIsOver_13 : decode M_Md_askIsOver.2.1 13 = .ok (.iconst 1, 1) := by decide +kernel
theorem d_Md_askIsOver_14 : decode M_Md_askIsOver.2.1 14 = .ok (.isub, 1) := by decide +kernel
theorem d_Md_askIsOver_15 : decode M_Md_askIsOver.2.1 15 = .ok (.putfield 192, 3) := by decide +kernel
theorem d_Md_askIsOver_18 : decode M_Md_askIsOver.2.1 18 = .ok (.aload_n 0, 1) := by decide +kernel
theorem d_Md_askIsOver_19 : decode M_Md_askIsOver.2.1 19 = .ok (.dup, 1) := by decide +kernel
theorem d_Md_askIsOver_20 : decode M_Md_askIsOver.2.1 20 = .ok (.getfield 195, 3) := by decide +kernel
theorem d_Md_askIsOver_23 : decode M_Md_askIsOver.2.1 23 = .ok (.iconst 1, 1) := by decide +kernel
theorem d_Md_askIsOver_24 : decode M_Md_askIsOver.2.1 24 = .ok (.isub, 1) := by decide +kernel
theorem d_Md_askIsOver_25 : decode M_Md_askIsOver.2.1 25 = .ok (.putfield 195, 3) := by decide +kernel
theorem d_Md_askIsOver_28 : decode M_Md_askIsOver.2.1 28 = .ok (.aload_n 0, 1) := by decide +kernel
theorem d_Md_askIsOver_29 : decode M_Md_askIsOver.2.1 29 = .ok (.sipush 405, 3) := by decide +kernel
theorem d_Md_askIsOver_32 : decode M_Md_askIsOver.2.1 32 = .ok (.iconst 0, 1) := by decide +kernel
theorem d_Md_askIsOver_33 : decode M_Md_askIsOver.2.1 33 = .ok (.invokevirtual 214, 3) := by decide +kernel
theorem d_Md_askIsOver_36 : decode M_Md_askIsOver.2.1 36 = .ok (.goto (-36), 3) := by decide +kernel
theorem d_Md_askIsOver_39 : decode M_Md_askIsOver.2.1 39 = .ok (.aload_n 0, 1) := by decide +kernel
theorem d_Md_askIsOver_40 : decode M_Md_askIsOver.2.1 40 = .ok (.iconst 3, 1) := by decide +kernel
theorem d_Md_askIsOver_41 : decode M_Md_askIsOver.2.1 41 = .ok (.putfield 227, 3) := by decide +kernel
theorem d_Md_askIsOver_44 : decode M_Md_askIsOver.2.1 44 = .ok (.return_, 1) := by decide +kernel
theorem d_Md_goesOn_0 : decode M_Md_goesOn.2.1 0 = .ok (.aload_n 0, 1) := by decide +kernel
theorem d_Md_goesOn_1 : decode M_Md_goesOn.2.1 1 = .ok (.invokevirtual 242, 3) := by decide +kernel
theorem d_Md_goesOn_4 : decode M_Md_goesOn.2.1 4 = .ok (.istore_n 1, 1) := by decide +kernel
theorem d_Md_goesOn_5 : decode M_Md_goesOn.2.1 5 = .ok (.aload_n 0, 1) := by decide +kernel
theorem d_Md_goesOn_6 : decode M_Md_goesOn.2.1 6 = .ok (.getfield 167, 3) := by decide +kernel
theorem d_Md_goesOn_9 : decode M_Md_goesOn.2.1 9 = .ok (.iconst 3, 1) := by decide +kernel
theorem d_Md_goesOn_10 : decode M_Md_goesOn.2.1 10 = .ok (.if_icmp .ne 55, 3) := by decide +kernel
theorem d_Md_goesOn_13 : decode M_Md_goesOn.2.1 13 = .ok (.aload_n 0, 1) := by decide +kernel
theorem d_Md_goesOn_14 : decode M_Md_goesOn.2.1 14 = .ok (.getfield 179, 3) := by decide +kernel
theorem d_Md_goesOn_17 : decode M_Md_goesOn.2.1 17 = .ok (.bipush 43, 2) := by decide +kernel
theorem d_Md_goesOn_19 : decode M_Md_goesOn.2.1 19 = .ok (.if_icmp .eq 30, 3) := by decide +kernel
theorem d_Md_goesOn_22 : decode M_Md_goesOn.2.1 22 = .ok (.aload_n 0, 1) := by decide +kernel
theorem d_Md_goesOn_23 : decode M_Md_goesOn.2.1 23 = .ok (.getfield 179, 3) := by decide +kernel
theorem d_Md_goesOn_26 : decode M_Md_goesOn.2.1 26 = .ok (.bipush 45, 2) := by decide +kernel
theorem d_Md_goesOn_28 : decode M_Md_goesOn.2.1 28 = .ok (.if_icmp .eq 21, 3) := by decide +kernel
theorem d_Md_goesOn_31 : decode M_Md_goesOn.2.1 31 = .ok (.aload_n 0, 1) := by decide +kernel
theorem d_Md_goesOn_32 : decode M_Md_goesOn.2.1 32 = .ok (.getfield 179, 3) := by decide +kernel
theorem d_Md_goesOn_35 : decode M_Md_goesOn.2.1 35 = .ok (.bipush 42, 2) := by decide +kernel
theorem d_Md_goesOn_37 : decode M_Md_goesOn.2.1 37 = .ok (.if_icmp .eq 12, 3) := by decide +kernel
theorem d_Md_goesOn_40 : decode M_Md_goesOn.2.1 40 = .ok (.aload_n 0, 1) := by decide +kernel
theorem d_Md_goesOn_41 : decode M_Md_goesOn.2.1 41 = .ok (.getfield 179, 3) := by decide +kernel
theorem d_Md_goesOn_44 : decode M_Md_goesOn.2.1 44 = .ok (.bipush 47, 2) := by decide +kernel
theorem d_Md_goesOn_46 : decode M_Md_goesOn.2.1 46 = .ok (.if_icmp .ne 19, 3) := by decide +kernel
theorem d_Md_goesOn_49 : decode M_Md_goesOn.2.1 49 = .ok (.aload_n 0, 1) := by decide +kernel
theorem d_Md_goesOn_50 : decode M_Md_goesOn.2.1 50 = .ok (.aload_n 0, 1) := by decide +kernel
theorem d_Md_goesOn_51 : decode M_Md_goesOn.2.1 51 = .ok (.getfield 179, 3) := by decide +kernel
theorem d_Md_goesOn_54 : decode M_Md_goesOn.2.1 54 = .ok (.invokevirtual 245, 3) := by decide +kernel
theorem d_Md_goesOn_57 : decode M_Md_goesOn.2.1 57 = .ok (.aload_n 0, 1) := by decide +kernel
theorem d_Md_goesOn_58 : decode M_Md_goesOn.2.1 58 = .ok (.iconst 1, 1) := by decide +kernel
theorem d_Md_goesOn_59 : decode M_Md_goesOn.2.1 59 = .ok (.putfield 227, 3) := by decide +kernel
theorem d_Md_goesOn_62 : decode M_Md_goesOn.2.1 62 = .ok (.goto 188, 3) := by decide +kernel
theorem d_Md_goesOn_65 : decode M_Md_goesOn.2.1 65 = .ok (.iload_n 1, 1) := by decide +kernel
theorem d_Md_goesOn_66 : decode M_Md_goesOn.2.1 66 = .ok (.bipush 6, 2) := by decide +kernel
theorem d_Md_goesOn_68 : decode M_Md_goesOn.2.1 68 = .ok (.if_icmp .ne 48, 3) := by decide +kernel
theorem d_Md_goesOn_71 : decode M_Md_goesOn.2.1 71 = .ok (.aload_n 0, 1) := by decide +kernel
theorem d_Md_goesOn_72 : decode M_Md_goesOn.2.1 72 = .ok (.bipush 41, 2) := by decide +kernel
theorem d_Md_goesOn_74 : decode M_Md_goesOn.2.1 74 = .ok (.invokevirtual 239, 3) := by decide +kernel
theorem d_Md_goesOn_77 : decode M_Md_goesOn.2.1 77 = .ok (.ifCond .eq 39, 3) := by decide +kernel
theorem d_Md_goesOn_80 : decode M_Md_goesOn.2.1 80 = .ok (.aload_n 0, 1) := by decide +kernel
theorem d_Md_goesOn_81 : decode M_Md_goesOn.2.1 81 = .ok (.iconst 3, 1) := by decide +kernel
theorem d_Md_goesOn_82 : decode M_Md_goesOn.2.1 82 = .ok (.invokevirtual 218, 3) := by decide +kernel
theorem d_Md_goesOn_85 : decode M_Md_goesOn.2.1 85 = .ok (.aload_n 0, 1) := by decide +kernel
theorem d_Md_goesOn_86 : decode M_Md_goesOn.2.1 86 = .ok (.dup, 1) := by decide +kernel
theorem d_Md_goesOn_87 : decode M_Md_goesOn.2.1 87 = .ok (.getfield 192, 3) := by decide +kernel
theorem d_Md_goesOn_90 : decode M_Md_goesOn.2.1 90 = .ok (.iconst 1, 1) := by decide +kernel
theorem d_Md_goesOn_91 : decode M_Md_goesOn.2.1 91 = .ok (.isub, 1) := by decide +kernel
theorem d_Md_goesOn_92 : decode M_Md_goesOn.2.1 92 = .ok (.putfield 192, 3) := by decide +kernel
theorem d_Md_goesOn_95 : decode M_Md_goesOn.2.1 95 = .ok (.aload_n 0, 1) := by decide +kernel
theorem d_Md_goesOn_96 : decode M_Md_goesOn.2.1 96 = .ok (.dup, 1) := by decide +kernel
theorem d_Md_goesOn_97 : decode M_Md_goesOn.2.1 97 = .ok (.getfield 195, 3) := by decide +kernel
theorem d_Md_goesOn_100 : decode M_Md_goesOn.2.1 100 = .ok (.iconst 1, 1) := by decide +kernel
theorem d_Md_goesOn_101 : decode M_Md_goesOn.2.1 101 = .ok (.isub, 1) := by decide +kernel
theorem d_Md_goesOn_102 : decode M_Md_goesOn.2.1 102 = .ok (.putfield 195, 3) := by decide +kernel
theorem d_Md_goesOn_105 : decode M_Md_goesOn.2.1 105 = .ok (.aload_n 0, 1) := by decide +kernel
theorem d_Md_goesOn_106 : decode M_Md_goesOn.2.1 106 = .ok (.invokevirtual 204, 3) := by decide +kernel
theorem d_Md_goesOn_109 : decode M_Md_goesOn.2.1 109 = .ok (.aload_n 0, 1) := by decide +kernel
theorem d_Md_goesOn_110 : decode M_Md_goesOn.2.1 110 = .ok (.invokevirtual 230, 3) := by decide +kernel
theorem d_Md_goesOn_113 : decode M_Md_goesOn.2.1 113 = .ok (.goto 137, 3) := by decide +kernel
theorem d_Md_goesOn_116 : decode M_Md_goesOn.2.1 116 = .ok (.iload_n 1, 1) := by decide +kernel
theorem d_Md_goesOn_117 : decode M_Md_goesOn.2.1 117 = .ok (.iconst 4, 1) := by decide +kernel
theorem d_Md_goesOn_118 : decode M_Md_goesOn.2.1 118 = .ok (.if_icmp .ne 63, 3) := by decide +kernel
theorem d_Md_goesOn_121 : decode M_Md_goesOn.2.1 121 = .ok (.aload_n 0, 1) := by decide +kernel
theorem d_Md_goesOn_122 : decode M_Md_goesOn.2.1 122 = .ok (.getfield 167, 3) := by decide +kernel
theorem d_Md_goesOn_125 : decode M_Md_goesOn.2.1 125 = .ok (.iconst 3, 1) := by decide +kernel
theorem d_Md_goesOn_126 : decode M_Md_goesOn.2.1 126 = .ok (.if_icmp .ne 55, 3) := by decide +kernel
theorem d_Md_goesOn_129 : decode M_Md_goesOn.2.1 129 = .ok (.aload_n 0, 1) := by decide +kernel
theorem d_Md_goesOn_130 : decode M_Md_goesOn.2.1 130 = .ok (.getfield 179, 3) := by decide +kernel
theorem d_Md_goesOn_133 : decode M_Md_goesOn.2.1 133 = .ok (.invokestatic 248, 3) := by decide +kernel
theorem d_Md_goesOn_136 : decode M_Md_goesOn.2.1 136 = .ok (.ifCond .eq 45, 3) := by decide +kernel
theorem d_Md_goesOn_139 : decode M_Md_goesOn.2.1 139 = .ok (.aload_n 0, 1) := by decide +kernel
theorem d_Md_goesOn_140 : decode M_Md_goesOn.2.1 140 = .ok (.iconst 3, 1) := by decide +kernel
theorem d_Md_goesOn_141 : decode M_Md_goesOn.2.1 141 = .ok (.invokevirtual 218, 3) := by decide +kernel
theorem d_Md_goesOn_144 : decode M_Md_goesOn.2.1 144 = .ok (.aload_n 0, 1) := by decide +kernel
theorem d_Md_goesOn_145 : decode M_Md_goesOn.2.1 145 = .ok (.getfield 45, 3) := by decide +kernel
theorem d_Md_goesOn_148 : decode M_Md_goesOn.2.1 148 = .ok (.aload_n 0, 1) := by decide +kernel
theorem d_Md_goesOn_149 : decode M_Md_goesOn.2.1 149 = .ok (.getfield 192, 3) := by decide +kernel
theorem d_Md_goesOn_152 : decode M_Md_goesOn.2.1 152 = .ok (.aload_n 0, 1) := by decide +kernel
theorem d_Md_goesOn_153 : decode M_Md_goesOn.2.1 153 = .ok (.getfield 179, 3) := by decide +kernel
theorem d_Md_goesOn_156 : decode M_Md_goesOn.2.1 156 = .ok (.iastore, 1) := by decide +kernel
theorem d_Md_goesOn_157 : decode M_Md_goesOn.2.1 157 = .ok (.aload_n 0, 1) := by decide +kernel
theorem d_Md_goesOn_158 : decode M_Md_goesOn.2.1 158 = .ok (.getfield 42, 3) := by decide +kernel
theorem d_Md_goesOn_161 : decode M_Md_goesOn.2.1 161 = .ok (.aload_n 0, 1) := by decide +kernel
theorem d_Md_goesOn_162 : decode M_Md_goesOn.2.1 162 = .ok (.getfield 192, 3) := by decide +kernel
theorem d_Md_goesOn_165 : decode M_Md_goesOn.2.1 165 = .ok (.iconst 1, 1) := by decide +kernel
theorem d_Md_goesOn_166 : decode M_Md_goesOn.2.1 166 = .ok (.isub, 1) := by decide +kernel
theorem d_Md_goesOn_167 : decode M_Md_goesOn.2.1 167 = .ok (.iconst 5, 1) := by decide +kernel
theorem d_Md_goesOn_168 : decode M_Md_goesOn.2.1 168 = .ok (.iastore, 1) := by decide +kernel
theorem d_Md_goesOn_169 : decode M_Md_goesOn.2.1 169 = .ok (.aload_n 0, 1) := by decide +kernel
theorem d_Md_goesOn_170 : decode M_Md_goesOn.2.1 170 = .ok (.invokevirtual 204, 3) := by decide +kernel
theorem d_Md_goesOn_173 : decode M_Md_goesOn.2.1 173 = .ok (.aload_n 0, 1) := by decide +kernel
theorem d_Md_goesOn_174 : decode M_Md_goesOn.2.1 174 = .ok (.iconst 1, 1) := by decide +kernel
theorem d_Md_goesOn_175 : decode M_Md_goesOn.2.1 175 = .ok (.putfield 227, 3) := by decide +kernel
theorem d_Md_goesOn_178 : decode M_Md_goesOn.2.1 178 = .ok (.goto 72, 3) := by decide +kernel
theorem d_Md_goesOn_181 : decode M_Md_goesOn.2.1 181 = .ok (.iload_n 1, 1) := by decide +kernel
theorem d_Md_goesOn_182 : decode M_Md_goesOn.2.1 182 = .ok (.iconst 5, 1) := by decide +kernel
theorem d_Md_goesOn_183 : decode M_Md_goesOn.2.1 183 = .ok (.if_icmp .ne 41, 3) := by decide +kernel
theorem d_Md_goesOn_186 : decode M_Md_goesOn.2.1 186 = .ok (.aload_n 0, 1) := by decide +kernel
theorem d_Md_goesOn_187 : decode M_Md_goesOn.2.1 187 = .ok (.iconst 3, 1) := by decide +kernel
theorem d_Md_goesOn_188 : decode M_Md_goesOn.2.1 188 = .ok (.invokevirtual 218, 3) := by decide +kernel
theorem d_Md_goesOn_191 : decode M_Md_goesOn.2.1 191 = .ok (.aload_n 0, 1) := by decide +kernel
theorem d_Md_goesOn_192 : decode M_Md_goesOn.2.1 192 = .ok (.getfield 45, 3) := by decide +kernel
theorem d_Md_goesOn_195 : decode M_Md_goesOn.2.1 195 = .ok (.aload_n 0, 1) := by decide +kernel
theorem d_Md_goesOn_196 : decode M_Md_goesOn.2.1 196 = .ok (.getfield 192, 3) := by decide +kernel
theorem d_Md_goesOn_199 : decode M_Md_goesOn.2.1 199 = .ok (.iaload, 1) := by decide +kernel
theorem d_Md_goesOn_200 : decode M_Md_goesOn.2.1 200 = .ok (.istore_n 2, 1) := by decide +kernel
theorem d_Md_goesOn_201 : decode M_Md_goesOn.2.1 201 = .ok (.aload_n 0, 1) := by decide +kernel
theorem d_Md_goesOn_202 : decode M_Md_goesOn.2.1 202 = .ok (.dup, 1) := by decide +kernel
theorem d_Md_goesOn_203 : decode M_Md_goesOn.2.1 203 = .ok (.getfield 192, 3) := by decide +kernel
theorem d_Md_goesOn_206 : decode M_Md_goesOn.2.1 206 = .ok (.iconst 1, 1) := by decide +kernel
theorem d_Md_goesOn_207 : decode M_Md_goesOn.2.1 207 = .ok (.isub, 1) := by decide +kernel
theorem d_Md_goesOn_208 : decode M_Md_goesOn.2.1 208 = .ok (.putfield 192, 3) := by decide +kernel
theorem d_Md_goesOn_211 : decode M_Md_goesOn.2.1 211 = .ok (.aload_n 0, 1) := by decide +kernel
theorem d_Md_goesOn_212 : decode M_Md_goesOn.2.1 212 = .ok (.iload_n 2, 1) := by decide +kernel
theorem d_Md_goesOn_213 : decode M_Md_goesOn.2.1 213 = .ok (.iconst 0, 1) := by decide +kernel
theorem d_Md_goesOn_214 : decode M_Md_goesOn.2.1 214 = .ok (.invokevirtual 214, 3) := by decide +kernel
theorem d_Md_goesOn_217 : decode M_Md_goesOn.2.1 217 = .ok (.aload_n 0, 1) := by decide +kernel
theorem d_Md_goesOn_218 : decode M_Md_goesOn.2.1 218 = .ok (.invokevirtual 251, 3) := by decide +kernel
theorem d_Md_goesOn_221 : decode M_Md_goesOn.2.1 221 = .ok (.goto 29, 3) := by decide +kernel
theorem d_Md_goesOn_224 : decode M_Md_goesOn.2.1 224 = .ok (.iload_n 1, 1) := by decide +kernel
theorem d_Md_goesOn_225 : decode M_Md_goesOn.2.1 225 = .ok (.iconst 1, 1) := by decide +kernel
theorem d_Md_goesOn_226 : decode M_Md_goesOn.2.1 226 = .ok (.if_icmp .ne 19, 3) := by decide +kernel
theorem d_Md_goesOn_229 : decode M_Md_goesOn.2.1 229 = .ok (.aload_n 0, 1) := by decide +kernel
theorem d_Md_goesOn_230 : decode M_Md_goesOn.2.1 230 = .ok (.bipush 59, 2) := by decide +kernel
theorem d_Md_goesOn_232 : decode M_Md_goesOn.2.1 232 = .ok (.invokevirtual 239, 3) := by decide +kernel
theorem d_Md_goesOn_235 : decode M_Md_goesOn.2.1 235 = .ok (.ifCond .eq 10, 3) := by decide +kernel
theorem d_Md_goesOn_238 : decode M_Md_goesOn.2.1 238 = .ok (.aload_n 0, 1) := by decide +kernel
theorem d_Md_goesOn_239 : decode M_Md_goesOn.2.1 239 = .ok (.invokevirtual 254, 3) := by decide +kernel
theorem d_Md_goesOn_242 : decode M_Md_goesOn.2.1 242 = .ok (.goto 8, 3) := by decide +kernel
theorem d_Md_goesOn_245 : decode M_Md_goesOn.2.1 245 = .ok (.aload_n 0, 1) := by decide +kernel
theorem d_Md_goesOn_246 : decode M_Md_goesOn.2.1 246 = .ok (.iconst 1, 1) := by decide +kernel
theorem d_Md_goesOn_247 : decode M_Md_goesOn.2.1 247 = .ok (.invokevirtual 198, 3) := by decide +kernel
theorem d_Md_goesOn_250 : decode M_Md_goesOn.2.1 250 = .ok (.return_, 1) := by decide +kernel
theorem d_Md_asksOn_0 : decode M_Md_asksOn.2.1 0 = .ok (.aload_n 0, 1) := by decide +kernel
theorem d_Md_asksOn_1 : decode M_Md_asksOn.2.1 1 = .ok (.bipush 6, 2) := by decide +kernel
theorem d_Md_asksOn_3 : decode M_Md_asksOn.2.1 3 = .ok (.invokevirtual 221, 3) := by decide +kernel
theorem d_Md_asksOn_6 : decode M_Md_asksOn.2.1 6 = .ok (.ifCond .ne 12, 3) := by decide +kernel
theorem d_Md_asksOn_9 : decode M_Md_asksOn.2.1 9 = .ok (.aload_n 0, 1) := by decide +kernel
theorem d_Md_asksOn_10 : decode M_Md_asksOn.2.1 10 = .ok (.bipush 7, 2) := by decide +kernel
theorem d_Md_asksOn_12 : decode M_Md_asksOn.2.1 12 = .ok (.invokevirtual 221, 3) := by decide +kernel
theorem d_Md_asksOn_15 : decode M_Md_asksOn.2.1 15 = .ok (.ifCond .eq 33, 3) := by decide +kernel
theorem d_Md_asksOn_18 : decode M_Md_asksOn.2.1 18 = .ok (.aload_n 0, 1) := by decide +kernel
theorem d_Md_asksOn_19 : decode M_Md_asksOn.2.1 19 = .ok (.aload_n 0, 1) := by decide +kernel
theorem d_Md_asksOn_20 : decode M_Md_asksOn.2.1 20 = .ok (.bipush 6, 2) := by decide +kernel
theorem d_Md_asksOn_22 : decode M_Md_asksOn.2.1 22 = .ok (.invokevirtual 221, 3) := by decide +kernel
theorem d_Md_asksOn_25 : decode M_Md_asksOn.2.1 25 = .ok (.ifCond .eq 9, 3) := by decide +kernel
theorem d_Md_asksOn_28 : decode M_Md_asksOn.2.1 28 = .ok (.sipush 407, 3) := by decide +kernel
theorem d_Md_asksOn_31 : decode M_Md_asksOn.2.1 31 = .ok (.goto 6, 3) := by decide +kernel
theorem d_Md_asksOn_34 : decode M_Md_asksOn.2.1 34 = .ok (.sipush 406, 3) := by decide +kernel
theorem d_Md_asksOn_37 : decode M_Md_asksOn.2.1 37 = .ok (.invokevirtual 245, 3) := by decide +kernel
theorem d_Md_asksOn_40 : decode M_Md_asksOn.2.1 40 = .ok (.aload_n 0, 1) := by decide +kernel
theorem d_Md_asksOn_41 : decode M_Md_asksOn.2.1 41 = .ok (.iconst 0, 1) := by decide +kernel
theorem d_Md_asksOn_42 : decode M_Md_asksOn.2.1 42 = .ok (.putfield 227, 3) := by decide +kernel
theorem d_Md_asksOn_45 : decode M_Md_asksOn.2.1 45 = .ok (.goto 32, 3) := by decide +kernel
theorem d_Md_asksOn_48 : decode M_Md_asksOn.2.1 48 = .ok (.aload_n 0, 1) := by decide +kernel
theorem d_Md_asksOn_49 : decode M_Md_asksOn.2.1 49 = .ok (.invokevirtual 242, 3) := by decide +kernel
theorem d_Md_asksOn_52 : decode M_Md_asksOn.2.1 52 = .ok (.iconst 2, 1) := by decide +kernel
theorem d_Md_asksOn_53 : decode M_Md_asksOn.2.1 53 = .ok (.if_icmp .ne 19, 3) := by decide +kernel
theorem d_Md_asksOn_56 : decode M_Md_asksOn.2.1 56 = .ok (.aload_n 0, 1) := by decide +kernel
theorem d_Md_asksOn_57 : decode M_Md_asksOn.2.1 57 = .ok (.bipush 59, 2) := by decide +kernel
theorem d_Md_asksOn_59 : decode M_Md_asksOn.2.1 59 = .ok (.invokevirtual 239, 3) := by decide +kernel
theorem d_Md_asksOn_62 : decode M_Md_asksOn.2.1 62 = .ok (.ifCond .eq 10, 3) := by decide +kernel
theorem d_Md_asksOn_65 : decode M_Md_asksOn.2.1 65 = .ok (.aload_n 0, 1) := by decide +kernel
theorem d_Md_asksOn_66 : decode M_Md_asksOn.2.1 66 = .ok (.invokevirtual 254, 3) := by decide +kernel
theorem d_Md_asksOn_69 : decode M_Md_asksOn.2.1 69 = .ok (.goto 8, 3) := by decide +kernel
theorem d_Md_asksOn_72 : decode M_Md_asksOn.2.1 72 = .ok (.aload_n 0, 1) := by decide +kernel
theorem d_Md_asksOn_73 : decode M_Md_asksOn.2.1 73 = .ok (.iconst 1, 1) := by decide +kernel
theorem d_Md_asksOn_74 : decode M_Md_asksOn.2.1 74 = .ok (.invokevirtual 198, 3) := by decide +kernel
theorem d_Md_asksOn_77 : decode M_Md_asksOn.2.1 77 = .ok (.return_, 1) := by decide +kernel
theorem d_Md_clause_0 : decode M_Md_clause.2.1 0 = .ok (.aload_n 0, 1) := by decide +kernel
theorem d_Md_clause_1 : decode M_Md_clause.2.1 1 = .ok (.getfield 167, 3) := by decide +kernel
theorem d_Md_clause_4 : decode M_Md_clause.2.1 4 = .ok (.iconst 1, 1) := by decide +kernel
theorem d_Md_clause_5 : decode M_Md_clause.2.1 5 = .ok (.if_icmp .ne 11, 3) := by decide +kernel
theorem d_Md_clause_8 : decode M_Md_clause.2.1 8 = .ok (.aload_n 0, 1) := by decide +kernel
theorem d_Md_clause_9 : decode M_Md_clause.2.1 9 = .ok (.getfield 179, 3) := by decide +kernel
theorem d_Md_clause_12 : decode M_Md_clause.2.1 12 = .ok (.iconst 5, 1) := by decide +kernel
theorem d_Md_clause_13 : decode M_Md_clause.2.1 13 = .ok (.if_icmp .le 9, 3) := by decide +kernel
theorem d_Md_clause_16 : decode M_Md_clause.2.1 16 = .ok (.aload_n 0, 1) := by decide +kernel
theorem d_Md_clause_17 : decode M_Md_clause.2.1 17 = .ok (.iconst 1, 1) := by decide +kernel
theorem d_Md_clause_18 : decode M_Md_clause.2.1 18 = .ok (.invokevirtual 198, 3) := by decide +kernel
theorem d_Md_clause_21 : decode M_Md_clause.2.1 21 = .ok (.return_, 1) := by decide +kernel
theorem d_Md_clause_22 : decode M_Md_clause.2.1 22 = .ok (.aload_n 0, 1) := by decide +kernel
theorem d_Md_clause_23 : decode M_Md_clause.2.1 23 = .ok (.aload_n 0, 1) := by decide +kernel
theorem d_Md_clause_24 : decode M_Md_clause.2.1 24 = .ok (.getfield 179, 3) := by decide +kernel
theorem d_Md_clause_27 : decode M_Md_clause.2.1 27 = .ok (.putfield 233, 3) := by decide +kernel
theorem d_Md_clause_30 : decode M_Md_clause.2.1 30 = .ok (.aload_n 0, 1) := by decide +kernel
theorem d_Md_clause_31 : decode M_Md_clause.2.1 31 = .ok (.getfield 54, 3) := by decide +kernel
theorem d_Md_clause_34 : decode M_Md_clause.2.1 34 = .ok (.aload_n 0, 1) := by decide +kernel
theorem d_Md_clause_35 : decode M_Md_clause.2.1 35 = .ok (.getfield 233, 3) := by decide +kernel
theorem d_Md_clause_38 : decode M_Md_clause.2.1 38 = .ok (.iaload, 1) := by decide +kernel
theorem d_Md_clause_39 : decode M_Md_clause.2.1 39 = .ok (.iconst (-1), 1) := by decide +kernel
theorem d_Md_clause_40 : decode M_Md_clause.2.1 40 = .ok (.if_icmp .eq 9, 3) := by decide +kernel
theorem d_Md_clause_43 : decode M_Md_clause.2.1 43 = .ok (.aload_n 0, 1) := by decide +kernel
theorem d_Md_clause_44 : decode M_Md_clause.2.1 44 = .ok (.iconst 4, 1) := by decide +kernel
theorem d_Md_clause_45 : decode M_Md_clause.2.1 45 = .ok (.invokevirtual 198, 3) := by decide +kernel
theorem d_Md_clause_48 : decode M_Md_clause.2.1 48 = .ok (.return_, 1) := by decide +kernel
theorem d_Md_clause_49 : decode M_Md_clause.2.1 49 = .ok (.aload_n 0, 1) := by decide +kernel
theorem d_Md_clause_50 : decode M_Md_clause.2.1 50 = .ok (.getfield 54, 3) := by decide +kernel
theorem d_Md_clause_53 : decode M_Md_clause.2.1 53 = .ok (.aload_n 0, 1) := by decide +kernel
theorem d_Md_clause_54 : decode M_Md_clause.2.1 54 = .ok (.getfield 233, 3) := by decide +kernel
theorem d_Md_clause_57 : decode M_Md_clause.2.1 57 = .ok (.aload_n 0, 1) := by decide +kernel
theorem d_Md_clause_58 : decode M_Md_clause.2.1 58 = .ok (.getfield 189, 3) := by decide +kernel
theorem d_Md_clause_61 : decode M_Md_clause.2.1 61 = .ok (.iastore, 1) := by decide +kernel
theorem d_Md_clause_62 : decode M_Md_clause.2.1 62 = .ok (.aload_n 0, 1) := by decide +kernel
theorem d_Md_clause_63 : decode M_Md_clause.2.1 63 = .ok (.getfield 57, 3) := by decide +kernel
theorem d_Md_clause_66 : decode M_Md_clause.2.1 66 = .ok (.aload_n 0, 1) := by decide +kernel
theorem d_Md_clause_67 : decode M_Md_clause.2.1 67 = .ok (.getfield 233, 3) := by decide +kernel
theorem d_Md_clause_70 : decode M_Md_clause.2.1 70 = .ok (.aload_n 0, 1) := by decide +kernel
theorem d_Md_clause_71 : decode M_Md_clause.2.1 71 = .ok (.getfield 257, 3) := by decide +kernel
theorem d_Md_clause_74 : decode M_Md_clause.2.1 74 = .ok (.iastore, 1) := by decide +kernel
theorem d_Md_clause_75 : decode M_Md_clause.2.1 75 = .ok (.aload_n 0, 1) := by decide +kernel
theorem d_Md_clause_76 : decode M_Md_clause.2.1 76 = .ok (.invokevirtual 204, 3) := by decide +kernel
theorem d_Md_clause_79 : decode M_Md_clause.2.1 79 = .ok (.aload_n 0, 1) := by decide +kernel
theorem d_Md_clause_80 : decode M_Md_clause.2.1 80 = .ok (.getfield 233, 3) := by decide +kernel
theorem d_Md_clause_83 : decode M_Md_clause.2.1 83 = .ok (.ifCond .eq 19, 3) := by decide +kernel
theorem d_Md_clause_86 : decode M_Md_clause.2.1 86 = .ok (.aload_n 0, 1) := by decide +kernel
theorem d_Md_clause_87 : decode M_Md_clause.2.1 87 = .ok (.getfield 233, 3) := by decide +kernel
theorem d_Md_clause_90 : decode M_Md_clause.2.1 90 = .ok (.iconst 1, 1) := by decide +kernel
theorem d_Md_clause_91 : decode M_Md_clause.2.1 91 = .ok (.if_icmp .eq 11, 3) := by decide +kernel
theorem d_Md_clause_94 : decode M_Md_clause.2.1 94 = .ok (.aload_n 0, 1) := by decide +kernel
theorem d_Md_clause_95 : decode M_Md_clause.2.1 95 = .ok (.getfield 233, 3) := by decide +kernel
theorem d_Md_clause_98 : decode M_Md_clause.2.1 98 = .ok (.iconst 4, 1) := by decide +kernel
theorem d_Md_clause_99 : decode M_Md_clause.2.1 99 = .ok (.if_icmp .ne 7, 3) := by decide +kernel
theorem d_Md_clause_102 : decode M_Md_clause.2.1 102 = .ok (.iconst 1, 1) := by decide +kernel
theorem d_Md_clause_103 : decode M_Md_clause.2.1 103 = .ok (.goto 4, 3) := by decide +kernel
theorem d_Md_clause_106 : decode M_Md_clause.2.1 106 = .ok (.iconst 0, 1) := by decide +kernel
theorem d_Md_clause_107 : decode M_Md_clause.2.1 107 = .ok (.istore_n 1, 1) := by decide +kernel
theorem d_Md_clause_108 : decode M_Md_clause.2.1 108 = .ok (.aload_n 0, 1) := by decide +kernel
theorem d_Md_clause_109 : decode M_Md_clause.2.1 109 = .ok (.iload_n 1, 1) := by decide +kernel
theorem d_Md_clause_110 : decode M_Md_clause.2.1 110 = .ok (.ifCond .eq 7, 3) := by decide +kernel
theorem d_Md_clause_113 : decode M_Md_clause.2.1 113 = .ok (.iconst 2, 1) := by decide +kernel
theorem d_Md_clause_114 : decode M_Md_clause.2.1 114 = .ok (.goto 4, 3) := by decide +kernel
theorem d_Md_clause_117 : decode M_Md_clause.2.1 117 = .ok (.iconst 1, 1) := by decide +kernel
theorem d_Md_clause_118 : decode M_Md_clause.2.1 118 = .ok (.invokevirtual 201, 3) := by decide +kernel
theorem d_Md_clause_121 : decode M_Md_clause.2.1 121 = .ok (.aload_n 0, 1) := by decide +kernel
theorem d_Md_clause_122 : decode M_Md_clause.2.1 122 = .ok (.iload_n 1, 1) := by decide +kernel
theorem d_Md_clause_123 : decode M_Md_clause.2.1 123 = .ok (.ifCond .eq 7, 3) := by decide +kernel
theorem d_Md_clause_126 : decode M_Md_clause.2.1 126 = .ok (.iconst 0, 1) := by decide +kernel
theorem d_Md_clause_127 : decode M_Md_clause.2.1 127 = .ok (.goto 4, 3) := by decide +kernel
theorem d_Md_clause_130 : decode M_Md_clause.2.1 130 = .ok (.iconst 1, 1) := by decide +kernel
theorem d_Md_clause_131 : decode M_Md_clause.2.1 131 = .ok (.putfield 227, 3) := by decide +kernel
theorem d_Md_clause_134 : decode M_Md_clause.2.1 134 = .ok (.return_, 1) := by decide +kernel
theorem d_Md_text_0 : decode M_Md_text.2.1 0 = .ok (.aload_n 0, 1) := by decide +kernel
theorem d_Md_text_1 : decode M_Md_text.2.1 1 = .ok (.getfield 7, 3) := by decide +kernel
theorem d_Md_text_4 : decode M_Md_text.2.1 4 = .ok (.iconst 2, 1) := by decide +kernel
theorem d_Md_text_5 : decode M_Md_text.2.1 5 = .ok (.iaload, 1) := by decide +kernel
theorem d_Md_text_6 : decode M_Md_text.2.1 6 = .ok (.iconst 4, 1) := by decide +kernel
theorem d_Md_text_7 : decode M_Md_text.2.1 7 = .ok (.if_icmp .ne 5, 3) := by decide +kernel
theorem d_Md_text_10 : decode M_Md_text.2.1 10 = .ok (.iconst (-1), 1) := by decide +kernel
theorem d_Md_text_11 : decode M_Md_text.2.1 11 = .ok (.ireturn, 1) := by decide +kernel
theorem d_Md_text_12 : decode M_Md_text.2.1 12 = .ok (.aload_n 0, 1) := by decide +kernel
theorem d_Md_text_13 : decode M_Md_text.2.1 13 = .ok (.aload_n 0, 1) := by decide +kernel
theorem d_Md_text_14 : decode M_Md_text.2.1 14 = .ok (.getfield 107, 3) := by decide +kernel
theorem d_Md_text_17 : decode M_Md_text.2.1 17 = .ok (.putfield 161, 3) := by decide +kernel
theorem d_Md_text_20 : decode M_Md_text.2.1 20 = .ok (.aload_n 0, 1) := by decide +kernel
theorem d_Md_text_21 : decode M_Md_text.2.1 21 = .ok (.iconst 0, 1) := by decide +kernel
theorem d_Md_text_22 : decode M_Md_text.2.1 22 = .ok (.putfield 107, 3) := by decide +kernel
theorem d_Md_text_25 : decode M_Md_text.2.1 25 = .ok (.aload_n 0, 1) := by decide +kernel
theorem d_Md_text_26 : decode M_Md_text.2.1 26 = .ok (.iconst 0, 1) := by decide +kernel
theorem d_Md_text_27 : decode M_Md_text.2.1 27 = .ok (.putfield 158, 3) := by decide +kernel
theorem d_Md_text_30 : decode M_Md_text.2.1 30 = .ok (.aload_n 0, 1) := by decide +kernel
theorem d_Md_text_31 : decode M_Md_text.2.1 31 = .ok (.iconst 0, 1) := by decide +kernel
theorem d_Md_text_32 : decode M_Md_text.2.1 32 = .ok (.putfield 183, 3) := by decide +kernel
theorem d_Md_text_35 : decode M_Md_text.2.1 35 = .ok (.aload_n 0, 1) := by decide +kernel
theorem d_Md_text_36 : decode M_Md_text.2.1 36 = .ok (.iconst (-1), 1) := by decide +kernel
theorem d_Md_text_37 : decode M_Md_text.2.1 37 = .ok (.putfield 186, 3) := by decide +kernel
theorem d_Md_text_40 : decode M_Md_text.2.1 40 = .ok (.aload_n 0, 1) := by decide +kernel
theorem d_Md_text_41 : decode M_Md_text.2.1 41 = .ok (.iconst 0, 1) := by decide +kernel
theorem d_Md_text_42 : decode M_Md_text.2.1 42 = .ok (.putfield 195, 3) := by decide +kernel
theorem d_Md_text_45 : decode M_Md_text.2.1 45 = .ok (.aload_n 0, 1) := by decide +kernel
theorem d_Md_text_46 : decode M_Md_text.2.1 46 = .ok (.iconst 0, 1) := by decide +kernel
theorem d_Md_text_47 : decode M_Md_text.2.1 47 = .ok (.putfield 192, 3) := by decide +kernel
theorem d_Md_text_50 : decode M_Md_text.2.1 50 = .ok (.aload_n 0, 1) := by decide +kernel
theorem d_Md_text_51 : decode M_Md_text.2.1 51 = .ok (.iconst 0, 1) := by decide +kernel
theorem d_Md_text_52 : decode M_Md_text.2.1 52 = .ok (.putfield 207, 3) := by decide +kernel
theorem d_Md_text_55 : decode M_Md_text.2.1 55 = .ok (.aload_n 0, 1) := by decide +kernel
theorem d_Md_text_56 : decode M_Md_text.2.1 56 = .ok (.iconst 4, 1) := by decide +kernel
theorem d_Md_text_57 : decode M_Md_text.2.1 57 = .ok (.putfield 227, 3) := by decide +kernel
theorem d_Md_text_60 : decode M_Md_text.2.1 60 = .ok (.aload_n 0, 1) := by decide +kernel
theorem d_Md_text_61 : decode M_Md_text.2.1 61 = .ok (.iconst 0, 1) := by decide +kernel
theorem d_Md_text_62 : decode M_Md_text.2.1 62 = .ok (.putfield 257, 3) := by decide +kernel
theorem d_Md_text_65 : decode M_Md_text.2.1 65 = .ok (.aload_n 0, 1) := by decide +kernel
theorem d_Md_text_66 : decode M_Md_text.2.1 66 = .ok (.iconst 0, 1) := by decide +kernel
theorem d_Md_text_67 : decode M_Md_text.2.1 67 = .ok (.putfield 189, 3) := by decide +kernel
theorem d_Md_text_70 : decode M_Md_text.2.1 70 = .ok (.iconst 0, 1) := by decide +kernel
theorem d_Md_text_71 : decode M_Md_text.2.1 71 = .ok (.istore_n 1, 1) := by decide +kernel
theorem d_Md_text_72 : decode M_Md_text.2.1 72 = .ok (.iload_n 1, 1) := by decide +kernel
theorem d_Md_text_73 : decode M_Md_text.2.1 73 = .ok (.bipush 6, 2) := by decide +kernel
theorem d_Md_text_75 : decode M_Md_text.2.1 75 = .ok (.if_icmp .ge 23, 3) := by decide +kernel
theorem d_Md_text_78 : decode M_Md_text.2.1 78 = .ok (.aload_n 0, 1) := by decide +kernel
theorem d_Md_text_79 : decode M_Md_text.2.1 79 = .ok (.getfield 54, 3) := by decide +kernel
theorem d_Md_text_82 : decode M_Md_text.2.1 82 = .ok (.iload_n 1, 1) := by decide +kernel
theorem d_Md_text_83 : decode M_Md_text.2.1 83 = .ok (.iconst (-1), 1) := by decide +kernel
theorem d_Md_text_84 : decode M_Md_text.2.1 84 = .ok (.iastore, 1) := by decide +kernel
theorem d_Md_text_85 : decode M_Md_text.2.1 85 = .ok (.aload_n 0, 1) := by decide +kernel
theorem d_Md_text_86 : decode M_Md_text.2.1 86 = .ok (.getfield 57, 3) := by decide +kernel
theorem d_Md_text_89 : decode M_Md_text.2.1 89 = .ok (.iload_n 1, 1) := by decide +kernel
theorem d_Md_text_90 : decode M_Md_text.2.1 90 = .ok (.iconst (-1), 1) := by decide +kernel
theorem d_Md_text_91 : decode M_Md_text.2.1 91 = .ok (.iastore, 1) := by decide +kernel
theorem d_Md_text_92 : decode M_Md_text.2.1 92 = .ok (.iinc 1 1, 3) := by decide +kernel
theorem d_Md_text_95 : decode M_Md_text.2.1 95 = .ok (.goto (-23), 3) := by decide +kernel
theorem d_Md_text_98 : decode M_Md_text.2.1 98 = .ok (.aload_n 0, 1) := by decide +kernel
theorem d_Md_text_99 : decode M_Md_text.2.1 99 = .ok (.invokevirtual 204, 3) := by decide +kernel
theorem d_Md_text_102 : decode M_Md_text.2.1 102 = .ok (.aload_n 0, 1) := by decide +kernel
theorem d_Md_text_103 : decode M_Md_text.2.1 103 = .ok (.getfield 183, 3) := by decide +kernel
theorem d_Md_text_106 : decode M_Md_text.2.1 106 = .ok (.ifCond .ne 89, 3) := by decide +kernel
theorem d_Md_text_109 : decode M_Md_text.2.1 109 = .ok (.aload_n 0, 1) := by decide +kernel
theorem d_Md_text_110 : decode M_Md_text.2.1 110 = .ok (.getfield 227, 3) := by decide +kernel
theorem d_Md_text_113 : decode M_Md_text.2.1 113 = .ok (.iconst 4, 1) := by decide +kernel
theorem d_Md_text_114 : decode M_Md_text.2.1 114 = .ok (.if_icmp .ne 10, 3) := by decide +kernel
theorem d_Md_text_117 : decode M_Md_text.2.1 117 = .ok (.aload_n 0, 1) := by decide +kernel
theorem d_Md_text_118 : decode M_Md_text.2.1 118 = .ok (.getfield 167, 3) := by decide +kernel
theorem d_Md_text_121 : decode M_Md_text.2.1 121 = .ok (.ifCond .eq 74, 3) := by decide +kernel
theorem d_Md_text_124 : decode M_Md_text.2.1 124 = .ok (.aload_n 0, 1) := by decide +kernel
theorem d_Md_text_125 : decode M_Md_text.2.1 125 = .ok (.getfield 227, 3) := by decide +kernel
theorem d_Md_text_128 : decode M_Md_text.2.1 128 = .ok (.tableswitch 60 0 3 #[32, 39, 46, 53], 32) := by decide +kernel
theorem d_Md_text_160 : decode M_Md_text.2.1 160 = .ok (.aload_n 0, 1) := by decide +kernel
theorem d_Md_text_161 : decode M_Md_text.2.1 161 = .ok (.invokevirtual 260, 3) := by decide +kernel
theorem d_Md_text_164 : decode M_Md_text.2.1 164 = .ok (.goto (-62), 3) := by decide +kernel
theorem d_Md_text_167 : decode M_Md_text.2.1 167 = .ok (.aload_n 0, 1) := by decide +kernel
theorem d_Md_text_168 : decode M_Md_text.2.1 168 = .ok (.invokevirtual 263, 3) := by decide +kernel
theorem d_Md_text_171 : decode M_Md_text.2.1 171 = .ok (.goto (-69), 3) := by decide +kernel
theorem d_Md_text_174 : decode M_Md_text.2.1 174 = .ok (.aload_n 0, 1) := by decide +kernel
theorem d_Md_text_175 : decode M_Md_text.2.1 175 = .ok (.invokevirtual 266, 3) := by decide +kernel
theorem d_Md_text_178 : decode M_Md_text.2.1 178 = .ok (.goto (-76), 3) := by decide +kernel
theorem d_Md_text_181 : decode M_Md_text.2.1 181 = .ok (.aload_n 0, 1) := by decide +kernel
theorem d_Md_text_182 : decode M_Md_text.2.1 182 = .ok (.invokevirtual 269, 3) := by decide +kernel
theorem d_Md_text_185 : decode M_Md_text.2.1 185 = .ok (.goto (-83), 3) := by decide +kernel
theorem d_Md_text_188 : decode M_Md_text.2.1 188 = .ok (.aload_n 0, 1) := by decide +kernel
theorem d_Md_text_189 : decode M_Md_text.2.1 189 = .ok (.invokevirtual 272, 3) := by decide +kernel
theorem d_Md_text_192 : decode M_Md_text.2.1 192 = .ok (.goto (-90), 3) := by decide +kernel
theorem d_Md_text_195 : decode M_Md_text.2.1 195 = .ok (.aload_n 0, 1) := by decide +kernel
theorem d_Md_text_196 : decode M_Md_text.2.1 196 = .ok (.aload_n 0, 1) := by decide +kernel
theorem d_Md_text_197 : decode M_Md_text.2.1 197 = .ok (.getfield 183, 3) := by decide +kernel
theorem d_Md_text_200 : decode M_Md_text.2.1 200 = .ok (.putfield 20, 3) := by decide +kernel
theorem d_Md_text_203 : decode M_Md_text.2.1 203 = .ok (.aload_n 0, 1) := by decide +kernel
theorem d_Md_text_204 : decode M_Md_text.2.1 204 = .ok (.aload_n 0, 1) := by decide +kernel
theorem d_Md_text_205 : decode M_Md_text.2.1 205 = .ok (.getfield 186, 3) := by decide +kernel
theorem d_Md_text_208 : decode M_Md_text.2.1 208 = .ok (.putfield 24, 3) := by decide +kernel
theorem d_Md_text_211 : decode M_Md_text.2.1 211 = .ok (.aload_n 0, 1) := by decide +kernel
theorem d_Md_text_212 : decode M_Md_text.2.1 212 = .ok (.getfield 183, 3) := by decide +kernel
theorem d_Md_text_215 : decode M_Md_text.2.1 215 = .ok (.ifCond .le 5, 3) := by decide +kernel
theorem d_Md_text_218 : decode M_Md_text.2.1 218 = .ok (.iconst (-1), 1) := by decide +kernel
theorem d_Md_text_219 : decode M_Md_text.2.1 219 = .ok (.ireturn, 1) := by decide +kernel
theorem d_Md_text_220 : decode M_Md_text.2.1 220 = .ok (.aload_n 0, 1) := by decide +kernel
theorem d_Md_text_221 : decode M_Md_text.2.1 221 = .ok (.getfield 7, 3) := by decide +kernel
theorem d_Md_text_224 : decode M_Md_text.2.1 224 = .ok (.iconst 2, 1) := by decide +kernel
theorem d_Md_text_225 : decode M_Md_text.2.1 225 = .ok (.iaload, 1) := by decide +kernel
theorem d_Md_text_226 : decode M_Md_text.2.1 226 = .ok (.istore_n 1, 1) := by decide +kernel
theorem d_Md_text_227 : decode M_Md_text.2.1 227 = .ok (.aload_n 0, 1) := by decide +kernel
theorem d_Md_text_228 : decode M_Md_text.2.1 228 = .ok (.getfield 27, 3) := by decide +kernel
theorem d_Md_text_231 : decode M_Md_text.2.1 231 = .ok (.iload_n 1, 1) := by decide +kernel
theorem d_Md_text_232 : decode M_Md_text.2.1 232 = .ok (.aload_n 0, 1) := by decide +kernel
theorem d_Md_text_233 : decode M_Md_text.2.1 233 = .ok (.getfield 257, 3) := by decide +kernel
theorem d_Md_text_236 : decode M_Md_text.2.1 236 = .ok (.iastore, 1) := by decide +kernel
theorem d_Md_text_237 : decode M_Md_text.2.1 237 = .ok (.iconst 0, 1) := by decide +kernel
theorem d_Md_text_238 : decode M_Md_text.2.1 238 = .ok (.istore_n 2, 1) := by decide +kernel
theorem d_Md_text_239 : decode M_Md_text.2.1 239 = .ok (.iload_n 2, 1) := by decide +kernel
theorem d_Md_text_240 : decode M_Md_text.2.1 240 = .ok (.bipush 6, 2) := by decide +kernel
theorem d_Md_text_242 : decode M_Md_text.2.1 242 = .ok (.if_icmp .ge 63, 3) := by decide +kernel
theorem d_Md_text_245 : decode M_Md_text.2.1 245 = .ok (.aload_n 0, 1) := by decide +kernel
theorem d_Md_text_246 : decode M_Md_text.2.1 246 = .ok (.getfield 30, 3) := by decide +kernel
theorem d_Md_text_249 : decode M_Md_text.2.1 249 = .ok (.bipush 6, 2) := by decide +kernel
theorem d_Md_text_251 : decode M_Md_text.2.1 251 = .ok (.iload_n 1, 1) := by decide +kernel
theorem d_Md_text_252 : decode M_Md_text.2.1 252 = .ok (.imul, 1) := by decide +kernel
theorem d_Md_text_253 : decode M_Md_text.2.1 253 = .ok (.iload_n 2, 1) := by decide +kernel
theorem d_Md_text_254 : decode M_Md_text.2.1 254 = .ok (.iadd, 1) := by decide +kernel
theorem d_Md_text_255 : decode M_Md_text.2.1 255 = .ok (.aload_n 0, 1) := by decide +kernel
theorem d_Md_text_256 : decode M_Md_text.2.1 256 = .ok (.getfield 54, 3) := by decide +kernel
theorem d_Md_text_259 : decode M_Md_text.2.1 259 = .ok (.iload_n 2, 1) := by decide +kernel
theorem d_Md_text_260 : decode M_Md_text.2.1 260 = .ok (.iaload, 1) := by decide +kernel
theorem d_Md_text_261 : decode M_Md_text.2.1 261 = .ok (.iconst (-1), 1) := by decide +kernel
theorem d_Md_text_262 : decode M_Md_text.2.1 262 = .ok (.if_icmp .ne 7, 3) := by decide +kernel
theorem d_Md_text_265 : decode M_Md_text.2.1 265 = .ok (.iconst (-1), 1) := by decide +kernel
theorem d_Md_text_266 : decode M_Md_text.2.1 266 = .ok (.goto 15, 3) := by decide +kernel
theorem d_Md_text_269 : decode M_Md_text.2.1 269 = .ok (.sipush 400, 3) := by decide +kernel
theorem d_Md_text_272 : decode M_Md_text.2.1 272 = .ok (.iload_n 1, 1) := by decide +kernel
theorem d_Md_text_273 : decode M_Md_text.2.1 273 = .ok (.imul, 1) := by decide +kernel
theorem d_Md_text_274 : decode M_Md_text.2.1 274 = .ok (.aload_n 0, 1) := by decide +kernel
theorem d_Md_text_275 : decode M_Md_text.2.1 275 = .ok (.getfield 54, 3) := by decide +kernel
theorem d_Md_text_278 : decode M_Md_text.2.1 278 = .ok (.iload_n 2, 1) := by decide +kernel
theorem d_Md_text_279 : decode M_Md_text.2.1 279 = .ok (.iaload, 1) := by decide +kernel
theorem d_Md_text_280 : decode M_Md_text.2.1 280 = .ok (.iadd, 1) := by decide +kernel
theorem d_Md_text_281 : decode M_Md_text.2.1 281 = .ok (.iastore, 1) := by decide +kernel
theorem d_Md_text_282 : decode M_Md_text.2.1 282 = .ok (.aload_n 0, 1) := by decide +kernel
theorem d_Md_text_283 : decode M_Md_text.2.1 283 = .ok (.getfield 33, 3) := by decide +kernel
theorem d_Md_text_286 : decode M_Md_text.2.1 286 = .ok (.bipush 6, 2) := by decide +kernel
theorem d_Md_text_288 : decode M_Md_text.2.1 288 = .ok (.iload_n 1, 1) := by decide +kernel
theorem d_Md_text_289 : decode M_Md_text.2.1 289 = .ok (.imul, 1) := by decide +kernel
theorem d_Md_text_290 : decode M_Md_text.2.1 290 = .ok (.iload_n 2, 1) := by decide +kernel
theorem d_Md_text_291 : decode M_Md_text.2.1 291 = .ok (.iadd, 1) := by decide +kernel
theorem d_Md_text_292 : decode M_Md_text.2.1 292 = .ok (.aload_n 0, 1) := by decide +kernel
theorem d_Md_text_293 : decode M_Md_text.2.1 293 = .ok (.getfield 57, 3) := by decide +kernel
theorem d_Md_text_296 : decode M_Md_text.2.1 296 = .ok (.iload_n 2, 1) := by decide +kernel
theorem d_Md_text_297 : decode M_Md_text.2.1 297 = .ok (.iaload, 1) := by decide +kernel
theorem d_Md_text_298 : decode M_Md_text.2.1 298 = .ok (.iastore, 1) := by decide +kernel
theorem d_Md_text_299 : decode M_Md_text.2.1 299 = .ok (.iinc 2 1, 3) := by decide +kernel
theorem d_Md_text_302 : decode M_Md_text.2.1 302 = .ok (.goto (-63), 3) := by decide +kernel
theorem d_Md_text_305 : decode M_Md_text.2.1 305 = .ok (.iconst 0, 1) := by decide +kernel
theorem d_Md_text_306 : decode M_Md_text.2.1 306 = .ok (.istore_n 2, 1) := by decide +kernel
theorem d_Md_text_307 : decode M_Md_text.2.1 307 = .ok (.iload_n 2, 1) := by decide +kernel
theorem d_Md_text_308 : decode M_Md_text.2.1 308 = .ok (.aload_n 0, 1) := by decide +kernel
theorem d_Md_text_309 : decode M_Md_text.2.1 309 = .ok (.getfield 189, 3) := by decide +kernel
theorem d_Md_text_312 : decode M_Md_text.2.1 312 = .ok (.if_icmp .ge 45, 3) := by decide +kernel
theorem d_Md_text_315 : decode M_Md_text.2.1 315 = .ok (.aload_n 0, 1) := by decide +kernel
theorem d_Md_text_316 : decode M_Md_text.2.1 316 = .ok (.getfield 36, 3) := by decide +kernel
theorem d_Md_text_319 : decode M_Md_text.2.1 319 = .ok (.sipush 400, 3) := by decide +kernel
theorem d_Md_text_322 : decode M_Md_text.2.1 322 = .ok (.iload_n 1, 1) := by decide +kernel
theorem d_Md_text_323 : decode M_Md_text.2.1 323 = .ok (.imul, 1) := by decide +kernel
theorem d_Md_text_324 : decode M_Md_text.2.1 324 = .ok (.iload_n 2, 1) := by decide +kernel
theorem d_Md_text_325 : decode M_Md_text.2.1 325 = .ok (.iadd, 1) := by decide +kernel
theorem d_Md_text_326 : decode M_Md_text.2.1 326 = .ok (.aload_n 0, 1) := by decide +kernel
theorem d_Md_text_327 : decode M_Md_text.2.1 327 = .ok (.getfield 60, 3) := by decide +kernel
theorem d_Md_text_330 : decode M_Md_text.2.1 330 = .ok (.iload_n 2, 1) := by decide +kernel
theorem d_Md_text_331 : decode M_Md_text.2.1 331 = .ok (.iaload, 1) := by decide +kernel
theorem d_Md_text_332 : decode M_Md_text.2.1 332 = .ok (.iastore, 1) := by decide +kernel
theorem d_Md_text_333 : decode M_Md_text.2.1 333 = .ok (.aload_n 0, 1) := by decide +kernel
theorem d_Md_text_334 : decode M_Md_text.2.1 334 = .ok (.getfield 39, 3) := by decide +kernel
theorem d_Md_text_337 : decode M_Md_text.2.1 337 = .ok (.sipush 400, 3) := by decide +kernel
theorem d_Md_text_340 : decode M_Md_text.2.1 340 = .ok (.iload_n 1, 1) := by decide +kernel
theorem d_Md_text_341 : decode M_Md_text.2.1 341 = .ok (.imul, 1) := by decide +kernel
theorem d_Md_text_342 : decode M_Md_text.2.1 342 = .ok (.iload_n 2, 1) := by decide +kernel
theorem d_Md_text_343 : decode M_Md_text.2.1 343 = .ok (.iadd, 1) := by decide +kernel
theorem d_Md_text_344 : decode M_Md_text.2.1 344 = .ok (.aload_n 0, 1) := by decide +kernel
theorem d_Md_text_345 : decode M_Md_text.2.1 345 = .ok (.getfield 63, 3) := by decide +kernel
theorem d_Md_text_348 : decode M_Md_text.2.1 348 = .ok (.iload_n 2, 1) := by decide +kernel
theorem d_Md_text_349 : decode M_Md_text.2.1 349 = .ok (.iaload, 1) := by decide +kernel
theorem d_Md_text_350 : decode M_Md_text.2.1 350 = .ok (.iastore, 1) := by decide +kernel
theorem d_Md_text_351 : decode M_Md_text.2.1 351 = .ok (.iinc 2 1, 3) := by decide +kernel
theorem d_Md_text_354 : decode M_Md_text.2.1 354 = .ok (.goto (-47), 3) := by decide +kernel
theorem d_Md_text_357 : decode M_Md_text.2.1 357 = .ok (.aload_n 0, 1) := by decide +kernel
theorem d_Md_text_358 : decode M_Md_text.2.1 358 = .ok (.getfield 7, 3) := by decide +kernel
theorem d_Md_text_361 : decode M_Md_text.2.1 361 = .ok (.iconst 2, 1) := by decide +kernel
theorem d_Md_text_362 : decode M_Md_text.2.1 362 = .ok (.dup2, 1) := by decide +kernel
theorem d_Md_text_363 : decode M_Md_text.2.1 363 = .ok (.iaload, 1) := by decide +kernel
theorem d_Md_text_364 : decode M_Md_text.2.1 364 = .ok (.iconst 1, 1) := by decide +kernel
theorem d_Md_text_365 : decode M_Md_text.2.1 365 = .ok (.iadd, 1) := by decide +kernel
theorem d_Md_text_366 : decode M_Md_text.2.1 366 = .ok (.iastore, 1) := by decide +kernel
theorem d_Md_text_367 : decode M_Md_text.2.1 367 = .ok (.iload_n 1, 1) := by decide +kernel
theorem d_Md_text_368 : decode M_Md_text.2.1 368 = .ok (.ireturn, 1) := by decide +kernel
theorem d_Md_fault_0 : decode M_Md_fault.2.1 0 = .ok (.iload_n 1, 1) := by decide +kernel
theorem d_Md_fault_1 : decode M_Md_fault.2.1 1 = .ok (.ifCond .ne 10, 3) := by decide +kernel
theorem d_Md_fault_4 : decode M_Md_fault.2.1 4 = .ok (.aload_n 0, 1) := by decide +kernel
theorem d_Md_fault_5 : decode M_Md_fault.2.1 5 = .ok (.getfield 20, 3) := by decide +kernel
theorem d_Md_fault_8 : decode M_Md_fault.2.1 8 = .ok (.goto 16, 3) := by decide +kernel
theorem d_Md_fault_11 : decode M_Md_fault.2.1 11 = .ok (.iload_n 1, 1) := by decide +kernel
theorem d_Md_fault_12 : decode M_Md_fault.2.1 12 = .ok (.iconst 1, 1) := by decide +kernel
theorem d_Md_fault_13 : decode M_Md_fault.2.1 13 = .ok (.if_icmp .ne 10, 3) := by decide +kernel
theorem d_Md_fault_16 : decode M_Md_fault.2.1 16 = .ok (.aload_n 0, 1) := by decide +kernel
theorem d_Md_fault_17 : decode M_Md_fault.2.1 17 = .ok (.getfield 24, 3) := by decide +kernel
theorem d_Md_fault_20 : decode M_Md_fault.2.1 20 = .ok (.goto 4, 3) := by decide +kernel
theorem d_Md_fault_23 : decode M_Md_fault.2.1 23 = .ok (.iconst (-1), 1) := by decide +kernel
theorem d_Md_fault_24 : decode M_Md_fault.2.1 24 = .ok (.ireturn, 1) := by decide +kernel
theorem d_Md_by_0 : decode M_Md_by.2.1 0 = .ok (.iload_n 1, 1) := by decide +kernel
theorem d_Md_by_1 : decode M_Md_by.2.1 1 = .ok (.iconst (-1), 1) := by decide +kernel
theorem d_Md_by_2 : decode M_Md_by.2.1 2 = .ok (.if_icmp .eq 21, 3) := by decide +kernel
theorem d_Md_by_5 : decode M_Md_by.2.1 5 = .ok (.iload_n 1, 1) := by decide +kernel
theorem d_Md_by_6 : decode M_Md_by.2.1 6 = .ok (.iconst 0, 1) := by decide +kernel
theorem d_Md_by_7 : decode M_Md_by.2.1 7 = .ok (.aload_n 0, 1) := by decide +kernel
theorem d_Md_by_8 : decode M_Md_by.2.1 8 = .ok (.getfield 7, 3) := by decide +kernel
theorem d_Md_by_11 : decode M_Md_by.2.1 11 = .ok (.iconst 2, 1) := by decide +kernel
theorem d_Md_by_12 : decode M_Md_by.2.1 12 = .ok (.iaload, 1) := by decide +kernel
theorem d_Md_by_13 : decode M_Md_by.2.1 13 = .ok (.iconst 1, 1) := by decide +kernel
theorem d_Md_by_14 : decode M_Md_by.2.1 14 = .ok (.isub, 1) := by decide +kernel
theorem d_Md_by_15 : decode M_Md_by.2.1 15 = .ok (.invokestatic 89, 3) := by decide +kernel
theorem d_Md_by_18 : decode M_Md_by.2.1 18 = .ok (.ifCond .ne 5, 3) := by decide +kernel
theorem d_Md_by_21 : decode M_Md_by.2.1 21 = .ok (.iconst 0, 1) := by decide +kernel
theorem d_Md_by_22 : decode M_Md_by.2.1 22 = .ok (.ireturn, 1) := by decide +kernel
theorem d_Md_by_23 : decode M_Md_by.2.1 23 = .ok (.aload_n 0, 1) := by decide +kernel
theorem d_Md_by_24 : decode M_Md_by.2.1 24 = .ok (.getfield 7, 3) := by decide +kernel
theorem d_Md_by_27 : decode M_Md_by.2.1 27 = .ok (.iconst 3, 1) := by decide +kernel
theorem d_Md_by_28 : decode M_Md_by.2.1 28 = .ok (.iload_n 1, 1) := by decide +kernel
theorem d_Md_by_29 : decode M_Md_by.2.1 29 = .ok (.iastore, 1) := by decide +kernel
theorem d_Md_by_30 : decode M_Md_by.2.1 30 = .ok (.iconst 1, 1) := by decide +kernel
theorem d_Md_by_31 : decode M_Md_by.2.1 31 = .ok (.ireturn, 1) := by decide +kernel
theorem d_Md_hasClause_0 : decode M_Md_hasClause.2.1 0 = .ok (.aload_n 0, 1) := by decide +kernel
theorem d_Md_hasClause_1 : decode M_Md_hasClause.2.1 1 = .ok (.getfield 7, 3) := by decide +kernel
theorem d_Md_hasClause_4 : decode M_Md_hasClause.2.1 4 = .ok (.iconst 3, 1) := by decide +kernel
theorem d_Md_hasClause_5 : decode M_Md_hasClause.2.1 5 = .ok (.iaload, 1) := by decide +kernel
theorem d_Md_hasClause_6 : decode M_Md_hasClause.2.1 6 = .ok (.iconst (-1), 1) := by decide +kernel
theorem d_Md_hasClause_7 : decode M_Md_hasClause.2.1 7 = .ok (.if_icmp .eq 35, 3) := by decide +kernel
theorem d_Md_hasClause_10 : decode M_Md_hasClause.2.1 10 = .ok (.iload_n 1, 1) := by decide +kernel
theorem d_Md_hasClause_11 : decode M_Md_hasClause.2.1 11 = .ok (.aload_n 0, 1) := by decide +kernel
theorem d_Md_hasClause_12 : decode M_Md_hasClause.2.1 12 = .ok (.getfield 73, 3) := by decide +kernel
theorem d_Md_hasClause_15 : decode M_Md_hasClause.2.1 15 = .ok (.if_icmp .eq 27, 3) := by decide +kernel
theorem d_Md_hasClause_18 : decode M_Md_hasClause.2.1 18 = .ok (.aload_n 0, 1) := by decide +kernel
theorem d_Md_hasClause_19 : decode M_Md_hasClause.2.1 19 = .ok (.getfield 30, 3) := by decide +kernel
theorem d_Md_hasClause_22 : decode M_Md_hasClause.2.1 22 = .ok (.bipush 6, 2) := by decide +kernel
theorem d_Md_hasClause_24 : decode M_Md_hasClause.2.1 24 = .ok (.aload_n 0, 1) := by decide +kernel
theorem d_Md_hasClause_25 : decode M_Md_hasClause.2.1 25 = .ok (.getfield 7, 3) := by decide +kernel
theorem d_Md_hasClause_28 : decode M_Md_hasClause.2.1 28 = .ok (.iconst 3, 1) := by decide +kernel
theorem d_Md_hasClause_29 : decode M_Md_hasClause.2.1 29 = .ok (.iaload, 1) := by decide +kernel
theorem d_Md_hasClause_30 : decode M_Md_hasClause.2.1 30 = .ok (.imul, 1) := by decide +kernel
theorem d_Md_hasClause_31 : decode M_Md_hasClause.2.1 31 = .ok (.iload_n 1, 1) := by decide +kernel
theorem d_Md_hasClause_32 : decode M_Md_hasClause.2.1 32 = .ok (.iadd, 1) := by decide +kernel
theorem d_Md_hasClause_33 : decode M_Md_hasClause.2.1 33 = .ok (.iaload, 1) := by decide +kernel
theorem d_Md_hasClause_34 : decode M_Md_hasClause.2.1 34 = .ok (.iconst (-1), 1) := by decide +kernel
theorem d_Md_hasClause_35 : decode M_Md_hasClause.2.1 35 = .ok (.if_icmp .eq 7, 3) := by decide +kernel
theorem d_Md_hasClause_38 : decode M_Md_hasClause.2.1 38 = .ok (.iconst 1, 1) := by decide +kernel
theorem d_Md_hasClause_39 : decode M_Md_hasClause.2.1 39 = .ok (.goto 4, 3) := by decide +kernel
theorem d_Md_hasClause_42 : decode M_Md_hasClause.2.1 42 = .ok (.iconst 0, 1) := by decide +kernel
theorem d_Md_hasClause_43 : decode M_Md_hasClause.2.1 43 = .ok (.ireturn, 1) := by decide +kernel
theorem d_Md_decreeOf_0 : decode M_Md_decreeOf.2.1 0 = .ok (.aload_n 0, 1) := by decide +kernel
theorem d_Md_decreeOf_1 : decode M_Md_decreeOf.2.1 1 = .ok (.getfield 7, 3) := by decide +kernel
theorem d_Md_decreeOf_4 : decode M_Md_decreeOf.2.1 4 = .ok (.bipush 40, 2) := by decide +kernel
theorem d_Md_decreeOf_6 : decode M_Md_decreeOf.2.1 6 = .ok (.iconst 4, 1) := by decide +kernel
theorem d_Md_decreeOf_7 : decode M_Md_decreeOf.2.1 7 = .ok (.iload_n 1, 1) := by decide +kernel
theorem d_Md_decreeOf_8 : decode M_Md_decreeOf.2.1 8 = .ok (.imul, 1) := by decide +kernel
theorem d_Md_decreeOf_9 : decode M_Md_decreeOf.2.1 9 = .ok (.iadd, 1) := by decide +kernel
theorem d_Md_decreeOf_10 : decode M_Md_decreeOf.2.1 10 = .ok (.iload_n 2, 1) := by decide +kernel
theorem d_Md_decreeOf_11 : decode M_Md_decreeOf.2.1 11 = .ok (.iadd, 1) := by decide +kernel
theorem d_Md_decreeOf_12 : decode M_Md_decreeOf.2.1 12 = .ok (.iaload, 1) := by decide +kernel
theorem d_Md_decreeOf_13 : decode M_Md_decreeOf.2.1 13 = .ok (.ireturn, 1) := by decide +kernel
theorem d_Md_warrantNames_0 : decode M_Md_warrantNames.2.1 0 = .ok (.aload_n 0, 1) := by decide +kernel
theorem d_Md_warrantNames_1 : decode M_Md_warrantNames.2.1 1 = .ok (.getfield 66, 3) := by decide +kernel
theorem d_Md_warrantNames_4 : decode M_Md_warrantNames.2.1 4 = .ok (.iconst 0, 1) := by decide +kernel
theorem d_Md_warrantNames_5 : decode M_Md_warrantNames.2.1 5 = .ok (.iload_n 1, 1) := by decide +kernel
theorem d_Md_warrantNames_6 : decode M_Md_warrantNames.2.1 6 = .ok (.iastore, 1) := by decide +kernel
theorem d_Md_warrantNames_7 : decode M_Md_warrantNames.2.1 7 = .ok (.aload_n 0, 1) := by decide +kernel
theorem d_Md_warrantNames_8 : decode M_Md_warrantNames.2.1 8 = .ok (.getfield 66, 3) := by decide +kernel
theorem d_Md_warrantNames_11 : decode M_Md_warrantNames.2.1 11 = .ok (.iconst 1, 1) := by decide +kernel
theorem d_Md_warrantNames_12 : decode M_Md_warrantNames.2.1 12 = .ok (.iload_n 2, 1) := by decide +kernel
theorem d_Md_warrantNames_13 : decode M_Md_warrantNames.2.1 13 = .ok (.iastore, 1) := by decide +kernel
theorem d_Md_warrantNames_14 : decode M_Md_warrantNames.2.1 14 = .ok (.aload_n 0, 1) := by decide +kernel
theorem d_Md_warrantNames_15 : decode M_Md_warrantNames.2.1 15 = .ok (.getfield 66, 3) := by decide +kernel
theorem d_Md_warrantNames_18 : decode M_Md_warrantNames.2.1 18 = .ok (.iconst 2, 1) := by decide +kernel
theorem d_Md_warrantNames_19 : decode M_Md_warrantNames.2.1 19 = .ok (.iload_n 1, 1) := by decide +kernel
theorem d_Md_warrantNames_20 : decode M_Md_warrantNames.2.1 20 = .ok (.ifCond .ne 7, 3) := by decide +kernel
theorem d_Md_warrantNames_23 : decode M_Md_warrantNames.2.1 23 = .ok (.iconst 0, 1) := by decide +kernel
theorem d_Md_warrantNames_24 : decode M_Md_warrantNames.2.1 24 = .ok (.goto 11, 3) := by decide +kernel
theorem d_Md_warrantNames_27 : decode M_Md_warrantNames.2.1 27 = .ok (.aload_n 0, 1) := by decide +kernel
theorem d_Md_warrantNames_28 : decode M_Md_warrantNames.2.1 28 = .ok (.iload_n 1, 1) := by decide +kernel
theorem d_Md_warrantNames_29 : decode M_Md_warrantNames.2.1 29 = .ok (.iconst 1, 1) := by decide +kernel
theorem d_Md_warrantNames_30 : decode M_Md_warrantNames.2.1 30 = .ok (.isub, 1) := by decide +kernel
theorem d_Md_warrantNames_31 : decode M_Md_warrantNames.2.1 31 = .ok (.iload_n 2, 1) := by decide +kernel
theorem d_Md_warrantNames_32 : decode M_Md_warrantNames.2.1 32 = .ok (.invokevirtual 291, 3) := by decide +kernel
theorem d_Md_warrantNames_35 : decode M_Md_warrantNames.2.1 35 = .ok (.iastore, 1) := by decide +kernel
theorem d_Md_warrantNames_36 : decode M_Md_warrantNames.2.1 36 = .ok (.aload_n 0, 1) := by decide +kernel
theorem d_Md_warrantNames_37 : decode M_Md_warrantNames.2.1 37 = .ok (.getfield 66, 3) := by decide +kernel
theorem d_Md_warrantNames_40 : decode M_Md_warrantNames.2.1 40 = .ok (.iconst 3, 1) := by decide +kernel
theorem d_Md_warrantNames_41 : decode M_Md_warrantNames.2.1 41 = .ok (.iload_n 1, 1) := by decide +kernel
theorem d_Md_warrantNames_42 : decode M_Md_warrantNames.2.1 42 = .ok (.ifCond .ne 7, 3) := by decide +kernel
theorem d_Md_warrantNames_45 : decode M_Md_warrantNames.2.1 45 = .ok (.iconst 0, 1) := by decide +kernel
theorem d_Md_warrantNames_46 : decode M_Md_warrantNames.2.1 46 = .ok (.goto 14, 3) := by decide +kernel
theorem d_Md_warrantNames_49 : decode M_Md_warrantNames.2.1 49 = .ok (.aload_n 0, 1) := by decide +kernel
theorem d_Md_warrantNames_50 : decode M_Md_warrantNames.2.1 50 = .ok (.getfield 7, 3) := by decide +kernel
theorem d_Md_warrantNames_53 : decode M_Md_warrantNames.2.1 53 = .ok (.bipush 10, 2) := by decide +kernel
theorem d_Md_warrantNames_55 : decode M_Md_warrantNames.2.1 55 = .ok (.iload_n 1, 1) := by decide +kernel
theorem d_Md_warrantNames_56 : decode M_Md_warrantNames.2.1 56 = .ok (.iadd, 1) := by decide +kernel
theorem d_Md_warrantNames_57 : decode M_Md_warrantNames.2.1 57 = .ok (.iconst 1, 1) := by decide +kernel
theorem d_Md_warrantNames_58 : decode M_Md_warrantNames.2.1 58 = .ok (.isub, 1) := by decide +kernel
theorem d_Md_warrantNames_59 : decode M_Md_warrantNames.2.1 59 = .ok (.iaload, 1) := by decide +kernel
theorem d_Md_warrantNames_60 : decode M_Md_warrantNames.2.1 60 = .ok (.iastore, 1) := by decide +kernel
theorem d_Md_warrantNames_61 : decode M_Md_warrantNames.2.1 61 = .ok (.aload_n 0, 1) := by decide +kernel
theorem d_Md_warrantNames_62 : decode M_Md_warrantNames.2.1 62 = .ok (.getfield 66, 3) := by decide +kernel
theorem d_Md_warrantNames_65 : decode M_Md_warrantNames.2.1 65 = .ok (.iconst 4, 1) := by decide +kernel
theorem d_Md_warrantNames_66 : decode M_Md_warrantNames.2.1 66 = .ok (.aload_n 0, 1) := by decide +kernel
theorem d_Md_warrantNames_67 : decode M_Md_warrantNames.2.1 67 = .ok (.getfield 7, 3) := by decide +kernel
theorem d_Md_warrantNames_70 : decode M_Md_warrantNames.2.1 70 = .ok (.bipush 10, 2) := by decide +kernel
theorem d_Md_warrantNames_72 : decode M_Md_warrantNames.2.1 72 = .ok (.iload_n 1, 1) := by decide +kernel
theorem d_Md_warrantNames_73 : decode M_Md_warrantNames.2.1 73 = .ok (.iadd, 1) := by decide +kernel
theorem d_Md_warrantNames_74 : decode M_Md_warrantNames.2.1 74 = .ok (.iaload, 1) := by decide +kernel
theorem d_Md_warrantNames_75 : decode M_Md_warrantNames.2.1 75 = .ok (.iastore, 1) := by decide +kernel
theorem d_Md_warrantNames_76 : decode M_Md_warrantNames.2.1 76 = .ok (.return_, 1) := by decide +kernel
theorem d_Md_bound_0 : decode M_Md_bound.2.1 0 = .ok (.lload_n 0, 1) := by decide +kernel
theorem d_Md_bound_1 : decode M_Md_bound.2.1 1 = .ok (.ldc2_w 275, 3) := by decide +kernel
theorem d_Md_bound_4 : decode M_Md_bound.2.1 4 = .ok (.lcmp, 1) := by decide +kernel
theorem d_Md_bound_5 : decode M_Md_bound.2.1 5 = .ok (.ifCond .le 9, 3) := by decide +kernel
theorem d_Md_bound_8 : decode M_Md_bound.2.1 8 = .ok (.ldc2_w 275, 3) := by decide +kernel
theorem d_Md_bound_11 : decode M_Md_bound.2.1 11 = .ok (.goto 18, 3) := by decide +kernel
theorem d_Md_bound_14 : decode M_Md_bound.2.1 14 = .ok (.lload_n 0, 1) := by decide +kernel
theorem d_Md_bound_15 : decode M_Md_bound.2.1 15 = .ok (.ldc2_w 277, 3) := by decide +kernel
theorem d_Md_bound_18 : decode M_Md_bound.2.1 18 = .ok (.lcmp, 1) := by decide +kernel
theorem d_Md_bound_19 : decode M_Md_bound.2.1 19 = .ok (.ifCond .ge 9, 3) := by decide +kernel
theorem d_Md_bound_22 : decode M_Md_bound.2.1 22 = .ok (.ldc2_w 277, 3) := by decide +kernel
theorem d_Md_bound_25 : decode M_Md_bound.2.1 25 = .ok (.goto 4, 3) := by decide +kernel
theorem d_Md_bound_28 : decode M_Md_bound.2.1 28 = .ok (.lload_n 0, 1) := by decide +kernel
theorem d_Md_bound_29 : decode M_Md_bound.2.1 29 = .ok (.lreturn, 1) := by decide +kernel
theorem d_Md_worked_0 : decode M_Md_worked.2.1 0 = .ok (.iload_n 0, 1) := by decide +kernel
theorem d_Md_worked_1 : decode M_Md_worked.2.1 1 = .ok (.lookupswitch 210 #[(35, 170), (42, 113), (43, 99), (45, 106), (47, 120), (60, 134), (61, 158), (62, 146), (300, 182), (301, 194), (406, 206)], 99) := by decide +kernel
theorem d_Md_worked_100 : decode M_Md_worked.2.1 100 = .ok (.lload_n 1, 1) := by decide +kernel
theorem d_Md_worked_101 : decode M_Md_worked.2.1 101 = .ok (.lload_n 3, 1) := by decide +kernel
theorem d_Md_worked_102 : decode M_Md_worked.2.1 102 = .ok (.ladd, 1) := by decide +kernel
theorem d_Md_worked_103 : decode M_Md_worked.2.1 103 = .ok (.invokestatic 279, 3) := by decide +kernel
theorem d_Md_worked_106 : decode M_Md_worked.2.1 106 = .ok (.lreturn, 1) := by decide +kernel
theorem d_Md_worked_107 : decode M_Md_worked.2.1 107 = .ok (.lload_n 1, 1) := by decide +kernel
theorem d_Md_worked_108 : decode M_Md_worked.2.1 108 = .ok (.lload_n 3, 1) := by decide +kernel
theorem d_Md_worked_109 : decode M_Md_worked.2.1 109 = .ok (.lsub, 1) := by decide +kernel
theorem d_Md_worked_110 : decode M_Md_worked.2.1 110 = .ok (.invokestatic 279, 3) := by decide +kernel
theorem d_Md_worked_113 : decode M_Md_worked.2.1 113 = .ok (.lreturn, 1) := by decide +kernel
theorem d_Md_worked_114 : decode M_Md_worked.2.1 114 = .ok (.lload_n 1, 1) := by decide +kernel
theorem d_Md_worked_115 : decode M_Md_worked.2.1 115 = .ok (.lload_n 3, 1) := by decide +kernel
theorem d_Md_worked_116 : decode M_Md_worked.2.1 116 = .ok (.lmul, 1) := by decide +kernel
theorem d_Md_worked_117 : decode M_Md_worked.2.1 117 = .ok (.invokestatic 279, 3) := by decide +kernel
theorem d_Md_worked_120 : decode M_Md_worked.2.1 120 = .ok (.lreturn, 1) := by decide +kernel
theorem d_Md_worked_121 : decode M_Md_worked.2.1 121 = .ok (.lload_n 3, 1) := by decide +kernel
theorem d_Md_worked_122 : decode M_Md_worked.2.1 122 = .ok (.lconst 0, 1) := by decide +kernel
theorem d_Md_worked_123 : decode M_Md_worked.2.1 123 = .ok (.lcmp, 1) := by decide +kernel
theorem d_Md_worked_124 : decode M_Md_worked.2.1 124 = .ok (.ifCond .ne 7, 3) := by decide +kernel
theorem d_Md_worked_127 : decode M_Md_worked.2.1 127 = .ok (.lconst 0, 1) := by decide +kernel
theorem d_Md_worked_128 : decode M_Md_worked.2.1 128 = .ok (.goto 6, 3) := by decide +kernel
theorem d_Md_worked_131 : decode M_Md_worked.2.1 131 = .ok (.lload_n 1, 1) := by decide +kernel
theorem d_Md_worked_132 : decode M_Md_worked.2.1 132 = .ok (.lload_n 3, 1) := by decide +kernel
theorem d_Md_worked_133 : decode M_Md_worked.2.1 133 = .ok (.ldiv, 1) := by decide +kernel
theorem d_Md_worked_134 : decode M_Md_worked.2.1 134 = .ok (.lreturn, 1) := by decide +kernel
theorem d_Md_worked_135 : decode M_Md_worked.2.1 135 = .ok (.lload_n 1, 1) := by decide +kernel
theorem d_Md_worked_136 : decode M_Md_worked.2.1 136 = .ok (.lload_n 3, 1) := by decide +kernel
theorem d_Md_worked_137 : decode M_Md_worked.2.1 137 = .ok (.lcmp, 1) := by decide +kernel
theorem d_Md_worked_138 : decode M_Md_worked.2.1 138 = .ok (.ifCond .ge 7, 3) := by decide +kernel
theorem d_Md_worked_141 : decode M_Md_worked.2.1 141 = .ok (.lconst 1, 1) := by decide +kernel
theorem d_Md_worked_142 : decode M_Md_worked.2.1 142 = .ok (.goto 4, 3) := by decide +kernel
theorem d_Md_worked_145 : decode M_Md_worked.2.1 145 = .ok (.lconst 0, 1) := by decide +kernel
theorem d_Md_worked_146 : decode M_Md_worked.2.1 146 = .ok (.lreturn, 1) := by decide +kernel
theorem d_Md_worked_147 : decode M_Md_worked.2.1 147 = .ok (.lload_n 1, 1) := by decide +kernel
theorem d_Md_worked_148 : decode M_Md_worked.2.1 148 = .ok (.lload_n 3, 1) := by decide +kernel
theorem d_Md_worked_149 : decode M_Md_worked.2.1 149 = .ok (.lcmp, 1) := by decide +kernel
theorem d_Md_worked_150 : decode M_Md_worked.2.1 150 = .ok (.ifCond .le 7, 3) := by decide +kernel
theorem d_Md_worked_153 : decode M_Md_worked.2.1 153 = .ok (.lconst 1, 1) := by decide +kernel
theorem d_Md_worked_154 : decode M_Md_worked.2.1 154 = .ok (.goto 4, 3) := by decide +kernel
theorem d_Md_worked_157 : decode M_Md_worked.2.1 157 = .ok (.lconst 0, 1) := by decide +kernel
theorem d_Md_worked_158 : decode M_Md_worked.2.1 158 = .ok (.lreturn, 1) := by decide +kernel
theorem d_Md_worked_159 : decode M_Md_worked.2.1 159 = .ok (.lload_n 1, 1) := by decide +kernel
theorem d_Md_worked_160 : decode M_Md_worked.2.1 160 = .ok (.lload_n 3, 1) := by decide +kernel
theorem d_Md_worked_161 : decode M_Md_worked.2.1 161 = .ok (.lcmp, 1) := by decide +kernel
theorem d_Md_worked_162 : decode M_Md_worked.2.1 162 = .ok (.ifCond .ne 7, 3) := by decide +kernel
theorem d_Md_worked_165 : decode M_Md_worked.2.1 165 = .ok (.lconst 1, 1) := by decide +kernel
theorem d_Md_worked_166 : decode M_Md_worked.2.1 166 = .ok (.goto 4, 3) := by decide +kernel
theorem d_Md_worked_169 : decode M_Md_worked.2.1 169 = .ok (.lconst 0, 1) := by decide +kernel
theorem d_Md_worked_170 : decode M_Md_worked.2.1 170 = .ok (.lreturn, 1) := by decide +kernel
theorem d_Md_worked_171 : decode M_Md_worked.2.1 171 = .ok (.lload_n 1, 1) := by decide +kernel
theorem d_Md_worked_172 : decode M_Md_worked.2.1 172 = .ok (.lload_n 3, 1) := by decide +kernel
theorem d_Md_worked_173 : decode M_Md_worked.2.1 173 = .ok (.lcmp, 1) := by decide +kernel
theorem d_Md_worked_174 : decode M_Md_worked.2.1 174 = .ok (.ifCond .eq 7, 3) := by decide +kernel
theorem d_Md_worked_177 : decode M_Md_worked.2.1 177 = .ok (.lconst 1, 1) := by decide +kernel
theorem d_Md_worked_178 : decode M_Md_worked.2.1 178 = .ok (.goto 4, 3) := by decide +kernel
theorem d_Md_worked_181 : decode M_Md_worked.2.1 181 = .ok (.lconst 0, 1) := by decide +kernel
theorem d_Md_worked_182 : decode M_Md_worked.2.1 182 = .ok (.lreturn, 1) := by decide +kernel
theorem d_Md_worked_183 : decode M_Md_worked.2.1 183 = .ok (.lload_n 1, 1) := by decide +kernel
theorem d_Md_worked_184 : decode M_Md_worked.2.1 184 = .ok (.lload_n 3, 1) := by decide +kernel
theorem d_Md_worked_185 : decode M_Md_worked.2.1 185 = .ok (.lcmp, 1) := by decide +kernel
theorem d_Md_worked_186 : decode M_Md_worked.2.1 186 = .ok (.ifCond .gt 7, 3) := by decide +kernel
theorem d_Md_worked_189 : decode M_Md_worked.2.1 189 = .ok (.lconst 1, 1) := by decide +kernel
theorem d_Md_worked_190 : decode M_Md_worked.2.1 190 = .ok (.goto 4, 3) := by decide +kernel
theorem d_Md_worked_193 : decode M_Md_worked.2.1 193 = .ok (.lconst 0, 1) := by decide +kernel
theorem d_Md_worked_194 : decode M_Md_worked.2.1 194 = .ok (.lreturn, 1) := by decide +kernel
theorem d_Md_worked_195 : decode M_Md_worked.2.1 195 = .ok (.lload_n 1, 1) := by decide +kernel
theorem d_Md_worked_196 : decode M_Md_worked.2.1 196 = .ok (.lload_n 3, 1) := by decide +kernel
theorem d_Md_worked_197 : decode M_Md_worked.2.1 197 = .ok (.lcmp, 1) := by decide +kernel
theorem d_Md_worked_198 : decode M_Md_worked.2.1 198 = .ok (.ifCond .lt 7, 3) := by decide +kernel
theorem d_Md_worked_201 : decode M_Md_worked.2.1 201 = .ok (.lconst 1, 1) := by decide +kernel
theorem d_Md_worked_202 : decode M_Md_worked.2.1 202 = .ok (.goto 4, 3) := by decide +kernel
theorem d_Md_worked_205 : decode M_Md_worked.2.1 205 = .ok (.lconst 0, 1) := by decide +kernel
theorem d_Md_worked_206 : decode M_Md_worked.2.1 206 = .ok (.lreturn, 1) := by decide +kernel
theorem d_Md_worked_207 : decode M_Md_worked.2.1 207 = .ok (.lload_n 1, 1) := by decide +kernel
theorem d_Md_worked_208 : decode M_Md_worked.2.1 208 = .ok (.lload_n 3, 1) := by decide +kernel
theorem d_Md_worked_209 : decode M_Md_worked.2.1 209 = .ok (.lmul, 1) := by decide +kernel
theorem d_Md_worked_210 : decode M_Md_worked.2.1 210 = .ok (.lreturn, 1) := by decide +kernel
theorem d_Md_worked_211 : decode M_Md_worked.2.1 211 = .ok (.lload_n 1, 1) := by decide +kernel
theorem d_Md_worked_212 : decode M_Md_worked.2.1 212 = .ok (.lload_n 3, 1) := by decide +kernel
theorem d_Md_worked_213 : decode M_Md_worked.2.1 213 = .ok (.ladd, 1) := by decide +kernel
theorem d_Md_worked_214 : decode M_Md_worked.2.1 214 = .ok (.lconst 0, 1) := by decide +kernel
theorem d_Md_worked_215 : decode M_Md_worked.2.1 215 = .ok (.lcmp, 1) := by decide +kernel
theorem d_Md_worked_216 : decode M_Md_worked.2.1 216 = .ok (.ifCond .le 7, 3) := by decide +kernel
theorem d_Md_worked_219 : decode M_Md_worked.2.1 219 = .ok (.lconst 1, 1) := by decide +kernel
theorem d_Md_worked_220 : decode M_Md_worked.2.1 220 = .ok (.goto 4, 3) := by decide +kernel
theorem d_Md_worked_223 : decode M_Md_worked.2.1 223 = .ok (.lconst 0, 1) := by decide +kernel
theorem d_Md_worked_224 : decode M_Md_worked.2.1 224 = .ok (.lreturn, 1) := by decide +kernel
theorem d_Md_saysOf_0 : decode M_Md_saysOf.2.1 0 = .ok (.iconst 0, 1) := by decide +kernel
theorem d_Md_saysOf_1 : decode M_Md_saysOf.2.1 1 = .ok (.istore_n 2, 1) := by decide +kernel
theorem d_Md_saysOf_2 : decode M_Md_saysOf.2.1 2 = .ok (.iload_n 1, 1) := by decide +kernel
theorem d_Md_saysOf_3 : decode M_Md_saysOf.2.1 3 = .ok (.istore_n 3, 1) := by decide +kernel
theorem d_Md_saysOf_4 : decode M_Md_saysOf.2.1 4 = .ok (.aload_n 0, 1) := by decide +kernel
theorem d_Md_saysOf_5 : decode M_Md_saysOf.2.1 5 = .ok (.getfield 36, 3) := by decide +kernel
theorem d_Md_saysOf_8 : decode M_Md_saysOf.2.1 8 = .ok (.iload_n 3, 1) := by decide +kernel
theorem d_Md_saysOf_9 : decode M_Md_saysOf.2.1 9 = .ok (.iaload, 1) := by decide +kernel
theorem d_Md_saysOf_10 : decode M_Md_saysOf.2.1 10 = .ok (.sipush 408, 3) := by decide +kernel
theorem d_Md_saysOf_13 : decode M_Md_saysOf.2.1 13 = .ok (.if_icmp .eq 162, 3) := by decide +kernel
theorem d_Md_saysOf_16 : decode M_Md_saysOf.2.1 16 = .ok (.aload_n 0, 1) := by decide +kernel
theorem d_Md_saysOf_17 : decode M_Md_saysOf.2.1 17 = .ok (.getfield 36, 3) := by decide +kernel
theorem d_Md_saysOf_20 : decode M_Md_saysOf.2.1 20 = .ok (.iload_n 3, 1) := by decide +kernel
theorem d_Md_saysOf_21 : decode M_Md_saysOf.2.1 21 = .ok (.iaload, 1) := by decide +kernel
theorem d_Md_saysOf_22 : decode M_Md_saysOf.2.1 22 = .ok (.istore 4, 2) := by decide +kernel
theorem d_Md_saysOf_24 : decode M_Md_saysOf.2.1 24 = .ok (.iload 4, 2) := by decide +kernel
theorem d_Md_saysOf_26 : decode M_Md_saysOf.2.1 26 = .ok (.sipush 400, 3) := by decide +kernel
theorem d_Md_saysOf_29 : decode M_Md_saysOf.2.1 29 = .ok (.if_icmp .eq 11, 3) := by decide +kernel
theorem d_Md_saysOf_32 : decode M_Md_saysOf.2.1 32 = .ok (.iload 4, 2) := by decide +kernel
theorem d_Md_saysOf_34 : decode M_Md_saysOf.2.1 34 = .ok (.sipush 401, 3) := by decide +kernel
theorem d_Md_saysOf_37 : decode M_Md_saysOf.2.1 37 = .ok (.if_icmp .ne 45, 3) := by decide +kernel
theorem d_Md_saysOf_40 : decode M_Md_saysOf.2.1 40 = .ok (.aload_n 0, 1) := by decide +kernel
theorem d_Md_saysOf_41 : decode M_Md_saysOf.2.1 41 = .ok (.getfield 69, 3) := by decide +kernel
theorem d_Md_saysOf_44 : decode M_Md_saysOf.2.1 44 = .ok (.iload_n 2, 1) := by decide +kernel
theorem d_Md_saysOf_45 : decode M_Md_saysOf.2.1 45 = .ok (.iload 4, 2) := by decide +kernel
theorem d_Md_saysOf_47 : decode M_Md_saysOf.2.1 47 = .ok (.sipush 400, 3) := by decide +kernel
theorem d_Md_saysOf_50 : decode M_Md_saysOf.2.1 50 = .ok (.if_icmp .ne 13, 3) := by decide +kernel
theorem d_Md_saysOf_53 : decode M_Md_saysOf.2.1 53 = .ok (.aload_n 0, 1) := by decide +kernel
theorem d_Md_saysOf_54 : decode M_Md_saysOf.2.1 54 = .ok (.getfield 39, 3) := by decide +kernel
theorem d_Md_saysOf_57 : decode M_Md_saysOf.2.1 57 = .ok (.iload_n 3, 1) := by decide +kernel
theorem d_Md_saysOf_58 : decode M_Md_saysOf.2.1 58 = .ok (.iaload, 1) := by decide +kernel
theorem d_Md_saysOf_59 : decode M_Md_saysOf.2.1 59 = .ok (.i2l, 1) := by decide +kernel
theorem d_Md_saysOf_60 : decode M_Md_saysOf.2.1 60 = .ok (.goto 15, 3) := by decide +kernel
theorem d_Md_saysOf_63 : decode M_Md_saysOf.2.1 63 = .ok (.aload_n 0, 1) := by decide +kernel
theorem d_Md_saysOf_64 : decode M_Md_saysOf.2.1 64 = .ok (.getfield 66, 3) := by decide +kernel
theorem d_Md_saysOf_67 : decode M_Md_saysOf.2.1 67 = .ok (.aload_n 0, 1) := by decide +kernel
theorem d_Md_saysOf_68 : decode M_Md_saysOf.2.1 68 = .ok (.getfield 39, 3) := by decide +kernel
theorem d_Md_saysOf_71 : decode M_Md_saysOf.2.1 71 = .ok (.iload_n 3, 1) := by decide +kernel
theorem d_Md_saysOf_72 : decode M_Md_saysOf.2.1 72 = .ok (.iaload, 1) := by decide +kernel
theorem d_Md_saysOf_73 : decode M_Md_saysOf.2.1 73 = .ok (.iaload, 1) := by decide +kernel
theorem d_Md_saysOf_74 : decode M_Md_saysOf.2.1 74 = .ok (.i2l, 1) := by decide +kernel
theorem d_Md_saysOf_75 : decode M_Md_saysOf.2.1 75 = .ok (.lastore, 1) := by decide +kernel
theorem d_Md_saysOf_76 : decode M_Md_saysOf.2.1 76 = .ok (.iinc 2 1, 3) := by decide +kernel
theorem d_Md_saysOf_79 : decode M_Md_saysOf.2.1 79 = .ok (.goto 90, 3) := by decide +kernel
theorem d_Md_saysOf_82 : decode M_Md_saysOf.2.1 82 = .ok (.iload 4, 2) := by decide +kernel
theorem d_Md_saysOf_84 : decode M_Md_saysOf.2.1 84 = .ok (.sipush 402, 3) := by decide +kernel
theorem d_Md_saysOf_87 : decode M_Md_saysOf.2.1 87 = .ok (.if_icmp .ne 23, 3) := by decide +kernel
theorem d_Md_saysOf_90 : decode M_Md_saysOf.2.1 90 = .ok (.aload_n 0, 1) := by decide +kernel
theorem d_Md_saysOf_91 : decode M_Md_saysOf.2.1 91 = .ok (.getfield 69, 3) := by decide +kernel
theorem d_Md_saysOf_94 : decode M_Md_saysOf.2.1 94 = .ok (.iload_n 2, 1) := by decide +kernel
theorem d_Md_saysOf_95 : decode M_Md_saysOf.2.1 95 = .ok (.iconst 1, 1) := by decide +kernel
theorem d_Md_saysOf_96 : decode M_Md_saysOf.2.1 96 = .ok (.isub, 1) := by decide +kernel
theorem d_Md_saysOf_97 : decode M_Md_saysOf.2.1 97 = .ok (.aload_n 0, 1) := by decide +kernel
theorem d_Md_saysOf_98 : decode M_Md_saysOf.2.1 98 = .ok (.getfield 69, 3) := by decide +kernel
theorem d_Md_saysOf_101 : decode M_Md_saysOf.2.1 101 = .ok (.iload_n 2, 1) := by decide +kernel
theorem d_Md_saysOf_102 : decode M_Md_saysOf.2.1 102 = .ok (.iconst 1, 1) := by decide +kernel
theorem d_Md_saysOf_103 : decode M_Md_saysOf.2.1 103 = .ok (.isub, 1) := by decide +kernel
theorem d_Md_saysOf_104 : decode M_Md_saysOf.2.1 104 = .ok (.laload, 1) := by decide +kernel
theorem d_Md_saysOf_105 : decode M_Md_saysOf.2.1 105 = .ok (.lneg, 1) := by decide +kernel
theorem d_Md_saysOf_106 : decode M_Md_saysOf.2.1 106 = .ok (.lastore, 1) := by decide +kernel
theorem d_Md_saysOf_107 : decode M_Md_saysOf.2.1 107 = .ok (.goto 62, 3) := by decide +kernel
theorem d_Md_saysOf_110 : decode M_Md_saysOf.2.1 110 = .ok (.iload 4, 2) := by decide +kernel
theorem d_Md_saysOf_112 : decode M_Md_saysOf.2.1 112 = .ok (.sipush 405, 3) := by decide +kernel
theorem d_Md_saysOf_115 : decode M_Md_saysOf.2.1 115 = .ok (.if_icmp .ne 24, 3) := by decide +kernel
theorem d_Md_saysOf_118 : decode M_Md_saysOf.2.1 118 = .ok (.aload_n 0, 1) := by decide +kernel
theorem d_Md_saysOf_119 : decode M_Md_saysOf.2.1 119 = .ok (.getfield 69, 3) := by decide +kernel
theorem d_Md_saysOf_122 : decode M_Md_saysOf.2.1 122 = .ok (.iload_n 2, 1) := by decide +kernel
theorem d_Md_saysOf_123 : decode M_Md_saysOf.2.1 123 = .ok (.iconst 1, 1) := by decide +kernel
theorem d_Md_saysOf_124 : decode M_Md_saysOf.2.1 124 = .ok (.isub, 1) := by decide +kernel
theorem d_Md_saysOf_125 : decode M_Md_saysOf.2.1 125 = .ok (.lconst 1, 1) := by decide +kernel
theorem d_Md_saysOf_126 : decode M_Md_saysOf.2.1 126 = .ok (.aload_n 0, 1) := by decide +kernel
theorem d_Md_saysOf_127 : decode M_Md_saysOf.2.1 127 = .ok (.getfield 69, 3) := by decide +kernel
theorem d_Md_saysOf_130 : decode M_Md_saysOf.2.1 130 = .ok (.iload_n 2, 1) := by decide +kernel
theorem d_Md_saysOf_131 : decode M_Md_saysOf.2.1 131 = .ok (.iconst 1, 1) := by decide +kernel
theorem d_Md_saysOf_132 : decode M_Md_saysOf.2.1 132 = .ok (.isub, 1) := by decide +kernel
theorem d_Md_saysOf_133 : decode M_Md_saysOf.2.1 133 = .ok (.laload, 1) := by decide +kernel
theorem d_Md_saysOf_134 : decode M_Md_saysOf.2.1 134 = .ok (.lsub, 1) := by decide +kernel
theorem d_Md_saysOf_135 : decode M_Md_saysOf.2.1 135 = .ok (.lastore, 1) := by decide +kernel
theorem d_Md_saysOf_136 : decode M_Md_saysOf.2.1 136 = .ok (.goto 33, 3) := by decide +kernel
theorem d_Md_saysOf_139 : decode M_Md_saysOf.2.1 139 = .ok (.iinc 2 (-1), 3) := by decide +kernel
theorem d_Md_saysOf_142 : decode M_Md_saysOf.2.1 142 = .ok (.aload_n 0, 1) := by decide +kernel
theorem d_Md_saysOf_143 : decode M_Md_saysOf.2.1 143 = .ok (.getfield 69, 3) := by decide +kernel
theorem d_Md_saysOf_146 : decode M_Md_saysOf.2.1 146 = .ok (.iload_n 2, 1) := by decide +kernel
theorem d_Md_saysOf_147 : decode M_Md_saysOf.2.1 147 = .ok (.iconst 1, 1) := by decide +kernel
theorem d_Md_saysOf_148 : decode M_Md_saysOf.2.1 148 = .ok (.isub, 1) := by decide +kernel
theorem d_Md_saysOf_149 : decode M_Md_saysOf.2.1 149 = .ok (.iload 4, 2) := by decide +kernel
theorem d_Md_saysOf_151 : decode M_Md_saysOf.2.1 151 = .ok (.aload_n 0, 1) := by decide +kernel
theorem d_Md_saysOf_152 : decode M_Md_saysOf.2.1 152 = .ok (.getfield 69, 3) := by decide +kernel
theorem d_Md_saysOf_155 : decode M_Md_saysOf.2.1 155 = .ok (.iload_n 2, 1) := by decide +kernel
theorem d_Md_saysOf_156 : decode M_Md_saysOf.2.1 156 = .ok (.iconst 1, 1) := by decide +kernel
theorem d_Md_saysOf_157 : decode M_Md_saysOf.2.1 157 = .ok (.isub, 1) := by decide +kernel
theorem d_Md_saysOf_158 : decode M_Md_saysOf.2.1 158 = .ok (.laload, 1) := by decide +kernel
theorem d_Md_saysOf_159 : decode M_Md_saysOf.2.1 159 = .ok (.aload_n 0, 1) := by decide +kernel
theorem d_Md_saysOf_160 : decode M_Md_saysOf.2.1 160 = .ok (.getfield 69, 3) := by decide +kernel
theorem d_Md_saysOf_163 : decode M_Md_saysOf.2.1 163 = .ok (.iload_n 2, 1) := by decide +kernel
theorem d_Md_saysOf_164 : decode M_Md_saysOf.2.1 164 = .ok (.laload, 1) := by decide +kernel
theorem d_Md_saysOf_165 : decode M_Md_saysOf.2.1 165 = .ok (.invokestatic 283, 3) := by decide +kernel
theorem d_Md_saysOf_168 : decode M_Md_saysOf.2.1 168 = .ok (.lastore, 1) := by decide +kernel
theorem d_Md_saysOf_169 : decode M_Md_saysOf.2.1 169 = .ok (.iinc 3 1, 3) := by decide +kernel
theorem d_Md_saysOf_172 : decode M_Md_saysOf.2.1 172 = .ok (.goto (-168), 3) := by decide +kernel
theorem d_Md_saysOf_175 : decode M_Md_saysOf.2.1 175 = .ok (.aload_n 0, 1) := by decide +kernel
theorem d_Md_saysOf_176 : decode M_Md_saysOf.2.1 176 = .ok (.getfield 69, 3) := by decide +kernel
theorem d_Md_saysOf_179 : decode M_Md_saysOf.2.1 179 = .ok (.iconst 0, 1) := by decide +kernel
theorem d_Md_saysOf_180 : decode M_Md_saysOf.2.1 180 = .ok (.laload, 1) := by decide +kernel
theorem d_Md_saysOf_181 : decode M_Md_saysOf.2.1 181 = .ok (.lreturn, 1) := by decide +kernel
-- Md_rank
def f_Md_rank (a0 : Int32) : Int32 := (if ¬ a0 = 407 then (if ¬ a0 = 406 then (if a0 = 43 then 3 else (if ¬ a0 = 45 then 4 else 3)) else 2) else 1)
theorem t_Md_rank (a0 : Int32) (V : xV) (L : xL) (res : Int32) (h : f_Md_rank a0 = res) : xRuns (1) M_Md_rank [.int a0] (SH, V, L) (fun o h' => o = some (.int res) ∧ h' = (SH, V, L)) := by
  refine xRuns_of (by decide) (Nat.le_of_ble_eq_true rfl) ?_
  unfold f_Md_rank at h
  show X M_Md_rank (xRm (1) M_Md_rank) (xZ M_Md_rank (fun o h' => o = some (.int res) ∧ h' = (SH, V, L))) SH V L 0 0 0 [(0, .int a0)] []
  refine x_iload_n 0 d_Md_rank_0 rfl rfl ?_
  refine x_sipush 407 d_Md_rank_1 (by decide) ?_
  refine x_icmp_ne 11 d_Md_rank_4 (by decide) (fun c1 => ?_) (fun c1 => ?_)
  · replace h := xpos c1 h
    refine x_iload_n 0 d_Md_rank_11 rfl rfl ?_
    refine x_sipush 406 d_Md_rank_12 (by decide) ?_
    refine x_icmp_ne 22 d_Md_rank_15 (by decide) (fun c2 => ?_) (fun c2 => ?_)
    · replace h := xpos c2 h
      refine x_iload_n 0 d_Md_rank_22 rfl rfl ?_
      refine x_bipush 43 d_Md_rank_23 (by decide) ?_
      refine x_icmp_eq 34 d_Md_rank_25 (by decide) (fun c3 => ?_) (fun c3 => ?_)
      · replace h := xpos c3 h
        refine x_iconst 3 d_Md_rank_34 (by decide) ?_
        refine x_goto 39 d_Md_rank_35 (by decide) ?_
        obtain rfl := h
        exact x_ireturn rfl d_Md_rank_39 (Nat.le_refl _) (Nat.le_refl _) ⟨rfl, rfl⟩
      · replace h := xneg c3 h
        refine x_iload_n 0 d_Md_rank_28 rfl rfl ?_
        refine x_bipush 45 d_Md_rank_29 (by decide) ?_
        refine x_icmp_ne 38 d_Md_rank_31 (by decide) (fun c4 => ?_) (fun c4 => ?_)
        · replace h := xpos c4 h
          refine x_iconst 4 d_Md_rank_38 (by decide) ?_
          obtain rfl := h
          exact x_ireturn rfl d_Md_rank_39 (Nat.le_refl _) (Nat.le_refl _) ⟨rfl, rfl⟩
        · replace h := xneg c4 h
          refine x_iconst 3 d_Md_rank_34 (by decide) ?_
          refine x_goto 39 d_Md_rank_35 (by decide) ?_
          obtain rfl := h
          exact x_ireturn rfl d_Md_rank_39 (Nat.le_refl _) (Nat.le_refl _) ⟨rfl, rfl⟩
    · replace h := xneg c2 h
      refine x_iconst 2 d_Md_rank_18 (by decide) ?_
      refine x_goto 39 d_Md_rank_19 (by decide) ?_
      obtain rfl := h
      exact x_ireturn rfl d_Md_rank_39 (Nat.le_refl _) (Nat.le_refl _) ⟨rfl, rfl⟩
  · replace h := xneg c1 h
    refine x_iconst 1 d_Md_rank_7 (by decide) ?_
    refine x_goto 39 d_Md_rank_8 (by decide) ?_
    obtain rfl := h
    exact x_ireturn rfl d_Md_rank_39 (Nat.le_refl _) (Nat.le_refl _) ⟨rfl, rfl⟩
-- Md_works
def b_Md_works_0 (k0 : Int32 → xV → Option (xV)) (v1 : Int32) (V : xV) : Option (xV) := (if (V 65 22) ≤ 0 then some V else (if xI ((V 65 22) - 1) 80 = true then (if ¬ (V 77 ((V 65 22) - 1).toNatClampNeg) = (V 65 19) then some V else (if xI ((V 65 22) - 1) 80 = true then (if (f_Md_rank (V 76 ((V 65 22) - 1).toNatClampNeg)) < v1 then some V else (if xI ((x2 V 65 22 ((V 65 22) - 1)) 65 22) 80 = true then (Option.bind (f_Md_emits ((x2 V 65 22 ((V 65 22) - 1)) 76 ((x2 V 65 22 ((V 65 22) - 1)) 65 22).toNatClampNeg) 0 (x2 V 65 22 ((V 65 22) - 1))) fun p8 => k0 v1 p8) else none)) else none)) else none))
theorem tb_Md_works_0 {L : xL} (k0 : Int32 → xV → Option (xV)) (res : xV) (hk0 : ∀ (v1 : Int32) (V : xV), k0 v1 V = some res → X M_Md_works (xRm (2) M_Md_works) (xZ M_Md_works (fun o h' => o = none ∧ h' = (SH, res, L))) SH V L 0 0 0 [(0, .ref 65), (1, .int v1)] []) (v1 : Int32) (V : xV) (h : b_Md_works_0 k0 v1 V = some res) : X M_Md_works (xRm (2) M_Md_works) (xZ M_Md_works (fun o h' => o = none ∧ h' = (SH, res, L))) SH V L 0 0 0 [(0, .ref 65), (1, .int v1)] [] := by
  unfold b_Md_works_0 at h
  refine x_aload_n 0 d_Md_works_0 rfl rfl ?_
  refine x_getI f_Md_207 sh_65 rfl d_Md_works_1 ?_
  refine x_if_le 70 d_Md_works_4 (by decide) (fun c1 => ?_) (fun c1 => ?_)
  · replace h := xpos c1 h
    obtain rfl := Option.some.inj h
    exact x_return rfl d_Md_works_70 (Nat.le_refl _) (Nat.le_refl _) ⟨rfl, rfl⟩
  · replace h := xneg c1 h
    refine x_aload_n 0 d_Md_works_7 rfl rfl ?_
    refine x_getP (q := 77) f_Md_51 sh_65 rfl d_Md_works_8 ?_
    refine x_aload_n 0 d_Md_works_11 rfl rfl ?_
    refine x_getI f_Md_207 sh_65 rfl d_Md_works_12 ?_
    refine x_iconst 1 d_Md_works_15 (by decide) ?_
    refine x_isub d_Md_works_16 ?_
    obtain ⟨c2, h⟩ := xguard h
    refine x_iaload sh_77 c2 d_Md_works_17 ?_
    refine x_aload_n 0 d_Md_works_18 rfl rfl ?_
    refine x_getI f_Md_192 sh_65 rfl d_Md_works_19 ?_
    refine x_icmp_ne 70 d_Md_works_22 (by decide) (fun c3 => ?_) (fun c3 => ?_)
    · replace h := xpos c3 h
      obtain rfl := Option.some.inj h
      exact x_return rfl d_Md_works_70 (Nat.le_refl _) (Nat.le_refl _) ⟨rfl, rfl⟩
    · replace h := xneg c3 h
      refine x_aload_n 0 d_Md_works_25 rfl rfl ?_
      refine x_getP (q := 76) f_Md_48 sh_65 rfl d_Md_works_26 ?_
      refine x_aload_n 0 d_Md_works_29 rfl rfl ?_
      refine x_getI f_Md_207 sh_65 rfl d_Md_works_30 ?_
      refine x_iconst 1 d_Md_works_33 (by decide) ?_
      refine x_isub d_Md_works_34 ?_
      obtain ⟨c4, h⟩ := xguard h
      refine x_iaload sh_76 c4 d_Md_works_35 ?_
      refine x_callS0 e_Md_210 (t_Md_rank (V 76 ((V 65 22) - 1).toNatClampNeg) V L _ rfl) rfl rfl rfl (Nat.le_of_ble_eq_true rfl) (xfit_of (by omega) (Nat.le_of_ble_eq_true rfl)) (Nat.zero_le _) (Nat.zero_le _) d_Md_works_36 ?_
      refine x_iload_n 1 d_Md_works_39 rfl rfl ?_
      refine x_icmp_lt 70 d_Md_works_40 (by decide) (fun c6 => ?_) (fun c6 => ?_)
      · replace h := xpos c6 h
        obtain rfl := Option.some.inj h
        exact x_return rfl d_Md_works_70 (Nat.le_refl _) (Nat.le_refl _) ⟨rfl, rfl⟩
      · replace h := xneg c6 h
        refine x_aload_n 0 d_Md_works_43 rfl rfl ?_
        refine x_dup d_Md_works_44 rfl ?_
        refine x_getI f_Md_207 sh_65 rfl d_Md_works_45 ?_
        refine x_iconst 1 d_Md_works_48 (by decide) ?_
        refine x_isub d_Md_works_49 ?_
        refine x_putI f_Md_207 sh_65 rfl rfl rfl d_Md_works_50 ?_
        refine x_aload_n 0 d_Md_works_53 rfl rfl ?_
        refine x_aload_n 0 d_Md_works_54 rfl rfl ?_
        refine x_getP (q := 76) f_Md_48 sh_65 rfl d_Md_works_55 ?_
        refine x_aload_n 0 d_Md_works_58 rfl rfl ?_
        refine x_getI f_Md_207 sh_65 rfl d_Md_works_59 ?_
        obtain ⟨c7, h⟩ := xguard h
        refine x_iaload sh_76 c7 d_Md_works_62 ?_
        refine x_iconst 0 d_Md_works_63 (by decide) ?_
        obtain ⟨p8, e9, h⟩ := xbind h
        refine x_callV0v e_Md_214 sh_65 rfl (t_Md_emits ((x2 V 65 22 ((V 65 22) - 1)) 76 ((x2 V 65 22 ((V 65 22) - 1)) 65 22).toNatClampNeg) 0 (x2 V 65 22 ((V 65 22) - 1)) L _ e9) rfl rfl rfl (Nat.le_of_ble_eq_true rfl) (xfit_of (by omega) (Nat.le_of_ble_eq_true rfl)) (Nat.zero_le _) (Nat.zero_le _) d_Md_works_64 ?_
        refine x_goto 0 d_Md_works_67 (by decide) ?_
        exact hk0 v1 p8 h
def g_Md_works_0  : Nat → Int32 → xV → Option (xV)
  | 0, _, _ => none
  | n + 1, v1, V => b_Md_works_0 (g_Md_works_0  n) v1 V
theorem tg_Md_works_0 {L : xL} (res : xV)  : ∀ (n : Nat) (v1 : Int32) (V : xV), g_Md_works_0  n v1 V = some res → X M_Md_works (xRm (2) M_Md_works) (xZ M_Md_works (fun o h' => o = none ∧ h' = (SH, res, L))) SH V L 0 0 0 [(0, .ref 65), (1, .int v1)] []
  | 0, _, _, h => by cases h
  | n + 1, v1, V, h => tb_Md_works_0 (L := L) (g_Md_works_0  n) res (tg_Md_works_0 (L := L) res n) v1 V h
def f_Md_works (a1 : Int32) (V : xV) : Option (xV) := g_Md_works_0 2000 a1 V
theorem t_Md_works (a1 : Int32) (V : xV) (L : xL) (res : xV) (h : f_Md_works a1 V = some res) : xRuns (2) M_Md_works [.ref 65, .int a1] (SH, V, L) (fun o h' => o = none ∧ h' = (SH, res, L)) := by
  refine xRuns_of (by decide) (Nat.le_of_ble_eq_true rfl) ?_
  unfold f_Md_works at h
  show X M_Md_works (xRm (2) M_Md_works) (xZ M_Md_works (fun o h' => o = none ∧ h' = (SH, res, L))) SH V L 0 0 0 [(0, .ref 65), (1, .int a1)] []
  exact tg_Md_works_0 (L := L) res _ a1 V h
-- Md_waitsFor
def f_Md_waitsFor (a1 : Int32) (V : xV) : Option (xV) := (Option.bind (f_Md_works (f_Md_rank a1) V) fun p2 => (if xI (p2 65 22) 80 = true then (if xI ((x2 p2 76 ((p2 65 22).toNatClampNeg) a1) 65 22) 80 = true then (Option.bind (f_Md_next (x2 (x2 (x2 p2 76 ((p2 65 22).toNatClampNeg) a1) 77 (((x2 p2 76 ((p2 65 22).toNatClampNeg) a1) 65 22).toNatClampNeg) ((x2 p2 76 ((p2 65 22).toNatClampNeg) a1) 65 19)) 65 22 (((x2 (x2 p2 76 ((p2 65 22).toNatClampNeg) a1) 77 (((x2 p2 76 ((p2 65 22).toNatClampNeg) a1) 65 22).toNatClampNeg) ((x2 p2 76 ((p2 65 22).toNatClampNeg) a1) 65 19)) 65 22) + 1))) fun p6 => some p6) else none) else none))
theorem t_Md_waitsFor (a1 : Int32) (V : xV) (L : xL) (res : xV) (h : f_Md_waitsFor a1 V = some res) : xRuns (4) M_Md_waitsFor [.ref 65, .int a1] (SH, V, L) (fun o h' => o = none ∧ h' = (SH, res, L)) := by
  refine xRuns_of (by decide) (Nat.le_of_ble_eq_true rfl) ?_
  unfold f_Md_waitsFor at h
  show X M_Md_waitsFor (xRm (4) M_Md_waitsFor) (xZ M_Md_waitsFor (fun o h' => o = none ∧ h' = (SH, res, L))) SH V L 0 0 0 [(0, .ref 65), (1, .int a1)] []
  refine x_aload_n 0 d_Md_waitsFor_0 rfl rfl ?_
  refine x_iload_n 1 d_Md_waitsFor_1 rfl rfl ?_
  refine x_callS0 e_Md_210 (t_Md_rank a1 V L _ rfl) rfl rfl rfl (Nat.le_of_ble_eq_true rfl) (xfit_of (by omega) (Nat.le_of_ble_eq_true rfl)) (Nat.zero_le _) (Nat.zero_le _) d_Md_waitsFor_2 ?_
  obtain ⟨p2, e3, h⟩ := xbind h
  refine x_callV0v e_Md_218 sh_65 rfl (t_Md_works (f_Md_rank a1) V L _ e3) rfl rfl rfl (Nat.le_of_ble_eq_true rfl) (xfit_of (by omega) (Nat.le_of_ble_eq_true rfl)) (Nat.zero_le _) (Nat.zero_le _) d_Md_waitsFor_5 ?_
  refine x_aload_n 0 d_Md_waitsFor_8 rfl rfl ?_
  refine x_getP (q := 76) f_Md_48 sh_65 rfl d_Md_waitsFor_9 ?_
  refine x_aload_n 0 d_Md_waitsFor_12 rfl rfl ?_
  refine x_getI f_Md_207 sh_65 rfl d_Md_waitsFor_13 ?_
  refine x_iload_n 1 d_Md_waitsFor_16 rfl rfl ?_
  obtain ⟨c4, h⟩ := xguard h
  refine x_iastore sh_76 c4 d_Md_waitsFor_17 ?_
  refine x_aload_n 0 d_Md_waitsFor_18 rfl rfl ?_
  refine x_getP (q := 77) f_Md_51 sh_65 rfl d_Md_waitsFor_19 ?_
  refine x_aload_n 0 d_Md_waitsFor_22 rfl rfl ?_
  refine x_getI f_Md_207 sh_65 rfl d_Md_waitsFor_23 ?_
  refine x_aload_n 0 d_Md_waitsFor_26 rfl rfl ?_
  refine x_getI f_Md_192 sh_65 rfl d_Md_waitsFor_27 ?_
  obtain ⟨c5, h⟩ := xguard h
  refine x_iastore sh_77 c5 d_Md_waitsFor_30 ?_
  refine x_aload_n 0 d_Md_waitsFor_31 rfl rfl ?_
  refine x_dup d_Md_waitsFor_32 rfl ?_
  refine x_getI f_Md_207 sh_65 rfl d_Md_waitsFor_33 ?_
  refine x_iconst 1 d_Md_waitsFor_36 (by decide) ?_
  refine x_iadd d_Md_waitsFor_37 ?_
  refine x_putI f_Md_207 sh_65 rfl rfl rfl d_Md_waitsFor_38 ?_
  refine x_aload_n 0 d_Md_waitsFor_41 rfl rfl ?_
  obtain ⟨p6, e7, h⟩ := xbind h
  refine x_callV0v e_Md_204 sh_65 rfl (t_Md_next (x2 (x2 (x2 p2 76 ((p2 65 22).toNatClampNeg) a1) 77 (((x2 p2 76 ((p2 65 22).toNatClampNeg) a1) 65 22).toNatClampNeg) ((x2 p2 76 ((p2 65 22).toNatClampNeg) a1) 65 19)) 65 22 (((x2 (x2 p2 76 ((p2 65 22).toNatClampNeg) a1) 77 (((x2 p2 76 ((p2 65 22).toNatClampNeg) a1) 65 22).toNatClampNeg) ((x2 p2 76 ((p2 65 22).toNatClampNeg) a1) 65 19)) 65 22) + 1)) L _ e7) rfl rfl rfl (Nat.le_of_ble_eq_true rfl) (xfit_of (by omega) (Nat.le_of_ble_eq_true rfl)) (Nat.zero_le _) (Nat.zero_le _) d_Md_waitsFor_42 ?_
  obtain rfl := Option.some.inj h
  exact x_return rfl d_Md_waitsFor_45 (Nat.le_refl _) (Nat.le_refl _) ⟨rfl, rfl⟩
-- Md_isAsking
def f_Md_isAsking (a0 : Int32) : Int32 := (if a0 = 60 then 1 else (if a0 = 62 then 1 else (if a0 = 61 then 1 else (if a0 = 35 then 1 else (if a0 = 300 then 1 else (if ¬ a0 = 301 then 0 else 1))))))
theorem t_Md_isAsking (a0 : Int32) (V : xV) (L : xL) (res : Int32) (h : f_Md_isAsking a0 = res) : xRuns (1) M_Md_isAsking [.int a0] (SH, V, L) (fun o h' => o = some (.int res) ∧ h' = (SH, V, L)) := by
  refine xRuns_of (by decide) (Nat.le_of_ble_eq_true rfl) ?_
  unfold f_Md_isAsking at h
  show X M_Md_isAsking (xRm (1) M_Md_isAsking) (xZ M_Md_isAsking (fun o h' => o = some (.int res) ∧ h' = (SH, V, L))) SH V L 0 0 0 [(0, .int a0)] []
  refine x_iload_n 0 d_Md_isAsking_0 rfl rfl ?_
  refine x_bipush 60 d_Md_isAsking_1 (by decide) ?_
  refine x_icmp_eq 38 d_Md_isAsking_3 (by decide) (fun c1 => ?_) (fun c1 => ?_)
  · replace h := xpos c1 h
    refine x_iconst 1 d_Md_isAsking_38 (by decide) ?_
    refine x_goto 43 d_Md_isAsking_39 (by decide) ?_
    obtain rfl := h
    exact x_zreturn rfl rfl d_Md_isAsking_43 (Nat.le_refl _) (Nat.le_refl _) ⟨rfl, rfl⟩
  · replace h := xneg c1 h
    refine x_iload_n 0 d_Md_isAsking_6 rfl rfl ?_
    refine x_bipush 62 d_Md_isAsking_7 (by decide) ?_
    refine x_icmp_eq 38 d_Md_isAsking_9 (by decide) (fun c2 => ?_) (fun c2 => ?_)
    · replace h := xpos c2 h
      refine x_iconst 1 d_Md_isAsking_38 (by decide) ?_
      refine x_goto 43 d_Md_isAsking_39 (by decide) ?_
      obtain rfl := h
      exact x_zreturn rfl rfl d_Md_isAsking_43 (Nat.le_refl _) (Nat.le_refl _) ⟨rfl, rfl⟩
    · replace h := xneg c2 h
      refine x_iload_n 0 d_Md_isAsking_12 rfl rfl ?_
      refine x_bipush 61 d_Md_isAsking_13 (by decide) ?_
      refine x_icmp_eq 38 d_Md_isAsking_15 (by decide) (fun c3 => ?_) (fun c3 => ?_)
      · replace h := xpos c3 h
        refine x_iconst 1 d_Md_isAsking_38 (by decide) ?_
        refine x_goto 43 d_Md_isAsking_39 (by decide) ?_
        obtain rfl := h
        exact x_zreturn rfl rfl d_Md_isAsking_43 (Nat.le_refl _) (Nat.le_refl _) ⟨rfl, rfl⟩
      · replace h := xneg c3 h
        refine x_iload_n 0 d_Md_isAsking_18 rfl rfl ?_
        refine x_bipush 35 d_Md_isAsking_19 (by decide) ?_
        refine x_icmp_eq 38 d_Md_isAsking_21 (by decide) (fun c4 => ?_) (fun c4 => ?_)
        · replace h := xpos c4 h
          refine x_iconst 1 d_Md_isAsking_38 (by decide) ?_
          refine x_goto 43 d_Md_isAsking_39 (by decide) ?_
          obtain rfl := h
          exact x_zreturn rfl rfl d_Md_isAsking_43 (Nat.le_refl _) (Nat.le_refl _) ⟨rfl, rfl⟩
        · replace h := xneg c4 h
          refine x_iload_n 0 d_Md_isAsking_24 rfl rfl ?_
          refine x_sipush 300 d_Md_isAsking_25 (by decide) ?_
          refine x_icmp_eq 38 d_Md_isAsking_28 (by decide) (fun c5 => ?_) (fun c5 => ?_)
          · replace h := xpos c5 h
            refine x_iconst 1 d_Md_isAsking_38 (by decide) ?_
            refine x_goto 43 d_Md_isAsking_39 (by decide) ?_
            obtain rfl := h
            exact x_zreturn rfl rfl d_Md_isAsking_43 (Nat.le_refl _) (Nat.le_refl _) ⟨rfl, rfl⟩
          · replace h := xneg c5 h
            refine x_iload_n 0 d_Md_isAsking_31 rfl rfl ?_
            refine x_sipush 301 d_Md_isAsking_32 (by decide) ?_
            refine x_icmp_ne 42 d_Md_isAsking_35 (by decide) (fun c6 => ?_) (fun c6 => ?_)
            · replace h := xpos c6 h
              refine x_iconst 0 d_Md_isAsking_42 (by decide) ?_
              obtain rfl := h
              exact x_zreturn rfl rfl d_Md_isAsking_43 (Nat.le_refl _) (Nat.le_refl _) ⟨rfl, rfl⟩
            · replace h := xneg c6 h
              refine x_iconst 1 d_Md_isAsking_38 (by decide) ?_
              refine x_goto 43 d_Md_isAsking_39 (by decide) ?_
              obtain rfl := h
              exact x_zreturn rfl rfl d_Md_isAsking_43 (Nat.le_refl _) (Nat.le_refl _) ⟨rfl, rfl⟩
-- Md_clauseIsOver
def f_Md_clauseIsOver (V : xV) : Option (xV) := (Option.bind (f_Md_works 1 V) fun p1 => (Option.bind (f_Md_emits 408 0 (x2 p1 65 19 0)) fun p3 => (Option.bind (f_Md_next (x2 p3 65 26 ((p3 65 26) + 1))) fun p5 => some (x2 p5 65 25 4))))
theorem t_Md_clauseIsOver  (V : xV) (L : xL) (res : xV) (h : f_Md_clauseIsOver V = some res) : xRuns (4) M_Md_clauseIsOver [.ref 65] (SH, V, L) (fun o h' => o = none ∧ h' = (SH, res, L)) := by
  refine xRuns_of (by decide) (Nat.le_of_ble_eq_true rfl) ?_
  unfold f_Md_clauseIsOver at h
  show X M_Md_clauseIsOver (xRm (4) M_Md_clauseIsOver) (xZ M_Md_clauseIsOver (fun o h' => o = none ∧ h' = (SH, res, L))) SH V L 0 0 0 [(0, .ref 65)] []
  refine x_aload_n 0 d_Md_clauseIsOver_0 rfl rfl ?_
  refine x_iconst 1 d_Md_clauseIsOver_1 (by decide) ?_
  obtain ⟨p1, e2, h⟩ := xbind h
  refine x_callV0v e_Md_218 sh_65 rfl (t_Md_works 1 V L _ e2) rfl rfl rfl (Nat.le_of_ble_eq_true rfl) (xfit_of (by omega) (Nat.le_of_ble_eq_true rfl)) (Nat.zero_le _) (Nat.zero_le _) d_Md_clauseIsOver_2 ?_
  refine x_aload_n 0 d_Md_clauseIsOver_5 rfl rfl ?_
  refine x_iconst 0 d_Md_clauseIsOver_6 (by decide) ?_
  refine x_putI f_Md_192 sh_65 rfl rfl rfl d_Md_clauseIsOver_7 ?_
  refine x_aload_n 0 d_Md_clauseIsOver_10 rfl rfl ?_
  refine x_sipush 408 d_Md_clauseIsOver_11 (by decide) ?_
  refine x_iconst 0 d_Md_clauseIsOver_14 (by decide) ?_
  obtain ⟨p3, e4, h⟩ := xbind h
  refine x_callV0v e_Md_214 sh_65 rfl (t_Md_emits 408 0 (x2 p1 65 19 0) L _ e4) rfl rfl rfl (Nat.le_of_ble_eq_true rfl) (xfit_of (by omega) (Nat.le_of_ble_eq_true rfl)) (Nat.zero_le _) (Nat.zero_le _) d_Md_clauseIsOver_15 ?_
  refine x_aload_n 0 d_Md_clauseIsOver_18 rfl rfl ?_
  refine x_dup d_Md_clauseIsOver_19 rfl ?_
  refine x_getI f_Md_257 sh_65 rfl d_Md_clauseIsOver_20 ?_
  refine x_iconst 1 d_Md_clauseIsOver_23 (by decide) ?_
  refine x_iadd d_Md_clauseIsOver_24 ?_
  refine x_putI f_Md_257 sh_65 rfl rfl rfl d_Md_clauseIsOver_25 ?_
  refine x_aload_n 0 d_Md_clauseIsOver_28 rfl rfl ?_
  obtain ⟨p5, e6, h⟩ := xbind h
  refine x_callV0v e_Md_204 sh_65 rfl (t_Md_next (x2 p3 65 26 ((p3 65 26) + 1)) L _ e6) rfl rfl rfl (Nat.le_of_ble_eq_true rfl) (xfit_of (by omega) (Nat.le_of_ble_eq_true rfl)) (Nat.zero_le _) (Nat.zero_le _) d_Md_clauseIsOver_29 ?_
  refine x_aload_n 0 d_Md_clauseIsOver_32 rfl rfl ?_
  refine x_iconst 4 d_Md_clauseIsOver_33 (by decide) ?_
  refine x_putI f_Md_227 sh_65 rfl rfl rfl d_Md_clauseIsOver_34 ?_
  obtain rfl := Option.some.inj h
  exact x_return rfl d_Md_clauseIsOver_37 (Nat.le_refl _) (Nat.le_refl _) ⟨rfl, rfl⟩
-- Md_askIsOver
def b_Md_askIsOver_0 (k0 : xV → Option (xV)) (V : xV) : Option (xV) := (Option.bind (f_Md_top V) fun p1 => (if ¬ p1 = 3 then some (x2 V 65 25 3) else (Option.bind (f_Md_emits 405 0 (x2 (x2 V 65 19 ((V 65 19) - 1)) 65 18 (((x2 V 65 19 ((V 65 19) - 1)) 65 18) - 1))) fun p4 => k0 p4)))
theorem tb_Md_askIsOver_0 {L : xL} (k0 : xV → Option (xV)) (res : xV) (hk0 : ∀ (V : xV), k0 V = some res → X M_Md_askIsOver (xRm (2) M_Md_askIsOver) (xZ M_Md_askIsOver (fun o h' => o = none ∧ h' = (SH, res, L))) SH V L 0 0 0 [(0, .ref 65)] []) (V : xV) (h : b_Md_askIsOver_0 k0 V = some res) : X M_Md_askIsOver (xRm (2) M_Md_askIsOver) (xZ M_Md_askIsOver (fun o h' => o = none ∧ h' = (SH, res, L))) SH V L 0 0 0 [(0, .ref 65)] [] := by
  unfold b_Md_askIsOver_0 at h
  refine x_aload_n 0 d_Md_askIsOver_0 rfl rfl ?_
  obtain ⟨p1, e2, h⟩ := xbind h
  refine x_callV0 e_Md_242 sh_65 rfl (t_Md_top V L _ e2) rfl rfl rfl (Nat.le_of_ble_eq_true rfl) (xfit_of (by omega) (Nat.le_of_ble_eq_true rfl)) (Nat.zero_le _) (Nat.zero_le _) d_Md_askIsOver_1 ?_
  refine x_iconst 3 d_Md_askIsOver_4 (by decide) ?_
  refine x_icmp_ne 39 d_Md_askIsOver_5 (by decide) (fun c3 => ?_) (fun c3 => ?_)
  · replace h := xpos c3 h
    refine x_aload_n 0 d_Md_askIsOver_39 rfl rfl ?_
    refine x_iconst 3 d_Md_askIsOver_40 (by decide) ?_
    refine x_putI f_Md_227 sh_65 rfl rfl rfl d_Md_askIsOver_41 ?_
    obtain rfl := Option.some.inj h
    exact x_return rfl d_Md_askIsOver_44 (Nat.le_refl _) (Nat.le_refl _) ⟨rfl, rfl⟩
  · replace h := xneg c3 h
    refine x_aload_n 0 d_Md_askIsOver_8 rfl rfl ?_
    refine x_dup d_Md_askIsOver_9 rfl ?_
    refine x_getI f_Md_192 sh_65 rfl d_Md_askIsOver_10 ?_
    refine x_iconst 1 d_Md_askIsOver_13 (by decide) ?_
    refine x_isub d_Md_askIsOver_14 ?_
    refine x_putI f_Md_192 sh_65 rfl rfl rfl d_Md_askIsOver_15 ?_
    refine x_aload_n 0 d_Md_askIsOver_18 rfl rfl ?_
    refine x_dup d_Md_askIsOver_19 rfl ?_
    refine x_getI f_Md_195 sh_65 rfl d_Md_askIsOver_20 ?_
    refine x_iconst 1 d_Md_askIsOver_23 (by decide) ?_
    refine x_isub d_Md_askIsOver_24 ?_
    refine x_putI f_Md_195 sh_65 rfl rfl rfl d_Md_askIsOver_25 ?_
    refine x_aload_n 0 d_Md_askIsOver_28 rfl rfl ?_
    refine x_sipush 405 d_Md_askIsOver_29 (by decide) ?_
    refine x_iconst 0 d_Md_askIsOver_32 (by decide) ?_
    obtain ⟨p4, e5, h⟩ := xbind h
    refine x_callV0v e_Md_214 sh_65 rfl (t_Md_emits 405 0 (x2 (x2 V 65 19 ((V 65 19) - 1)) 65 18 (((x2 V 65 19 ((V 65 19) - 1)) 65 18) - 1)) L _ e5) rfl rfl rfl (Nat.le_of_ble_eq_true rfl) (xfit_of (by omega) (Nat.le_of_ble_eq_true rfl)) (Nat.zero_le _) (Nat.zero_le _) d_Md_askIsOver_33 ?_
    refine x_goto 0 d_Md_askIsOver_36 (by decide) ?_
    exact hk0 p4 h
def g_Md_askIsOver_0  : Nat → xV → Option (xV)
  | 0, _ => none
  | n + 1, V => b_Md_askIsOver_0 (g_Md_askIsOver_0  n) V
theorem tg_Md_askIsOver_0 {L : xL} (res : xV)  : ∀ (n : Nat) (V : xV), g_Md_askIsOver_0  n V = some res → X M_Md_askIsOver (xRm (2) M_Md_askIsOver) (xZ M_Md_askIsOver (fun o h' => o = none ∧ h' = (SH, res, L))) SH V L 0 0 0 [(0, .ref 65)] []
  | 0, _, h => by cases h
  | n + 1, V, h => tb_Md_askIsOver_0 (L := L) (g_Md_askIsOver_0  n) res (tg_Md_askIsOver_0 (L := L) res n) V h
def f_Md_askIsOver (V : xV) : Option (xV) := g_Md_askIsOver_0 2000 V
theorem t_Md_askIsOver  (V : xV) (L : xL) (res : xV) (h : f_Md_askIsOver V = some res) : xRuns (2) M_Md_askIsOver [.ref 65] (SH, V, L) (fun o h' => o = none ∧ h' = (SH, res, L)) := by
  refine xRuns_of (by decide) (Nat.le_of_ble_eq_true rfl) ?_
  unfold f_Md_askIsOver at h
  show X M_Md_askIsOver (xRm (2) M_Md_askIsOver) (xZ M_Md_askIsOver (fun o h' => o = none ∧ h' = (SH, res, L))) SH V L 0 0 0 [(0, .ref 65)] []
  exact tg_Md_askIsOver_0 (L := L) res _ V h
-- Md_goesOn
def b_Md_goesOn_181 (v1 : Int32) (V : xV) : Option (xV) := (if ¬ v1 = 5 then (if ¬ v1 = 1 then some (f_Md_errs 1 V) else (if (f_Md_isSign 59 V) = 0 then some (f_Md_errs 1 V) else (Option.bind (f_Md_clauseIsOver V) fun p41 => some p41))) else (Option.bind (f_Md_works 3 V) fun p43 => (if xI (p43 65 19) 41 = true then (Option.bind (f_Md_emits (p43 75 (p43 65 19).toNatClampNeg) 0 (x2 p43 65 19 ((p43 65 19) - 1))) fun p46 => (Option.bind (f_Md_askIsOver p46) fun p48 => some p48)) else none)))
theorem tb_Md_goesOn_181 {L : xL} (res : xV)  (v1 : Int32) (V : xV) (h : b_Md_goesOn_181 v1 V = some res) : X M_Md_goesOn (xRm (5) M_Md_goesOn) (xZ M_Md_goesOn (fun o h' => o = none ∧ h' = (SH, res, L))) SH V L 0 0 181 [(0, .ref 65), (1, .int v1)] [] := by
  unfold b_Md_goesOn_181 at h
  refine x_iload_n 1 d_Md_goesOn_181 rfl rfl ?_
  refine x_iconst 5 d_Md_goesOn_182 (by decide) ?_
  refine x_icmp_ne 224 d_Md_goesOn_183 (by decide) (fun c35 => ?_) (fun c35 => ?_)
  · replace h := xpos c35 h
    refine x_iload_n 1 d_Md_goesOn_224 rfl rfl ?_
    refine x_iconst 1 d_Md_goesOn_225 (by decide) ?_
    refine x_icmp_ne 245 d_Md_goesOn_226 (by decide) (fun c36 => ?_) (fun c36 => ?_)
    · replace h := xpos c36 h
      refine x_aload_n 0 d_Md_goesOn_245 rfl rfl ?_
      refine x_iconst 1 d_Md_goesOn_246 (by decide) ?_
      refine x_callV0v e_Md_198 sh_65 rfl (t_Md_errs 1 V L _ rfl) rfl rfl rfl (Nat.le_of_ble_eq_true rfl) (xfit_of (by omega) (Nat.le_of_ble_eq_true rfl)) (Nat.zero_le _) (Nat.zero_le _) d_Md_goesOn_247 ?_
      obtain rfl := Option.some.inj h
      exact x_return rfl d_Md_goesOn_250 (Nat.le_refl _) (Nat.le_refl _) ⟨rfl, rfl⟩
    · replace h := xneg c36 h
      refine x_aload_n 0 d_Md_goesOn_229 rfl rfl ?_
      refine x_bipush 59 d_Md_goesOn_230 (by decide) ?_
      refine x_callV0 e_Md_239 sh_65 rfl (t_Md_isSign 59 V L _ rfl) rfl rfl rfl (Nat.le_of_ble_eq_true rfl) (xfit_of (by omega) (Nat.le_of_ble_eq_true rfl)) (Nat.zero_le _) (Nat.zero_le _) d_Md_goesOn_232 ?_
      refine x_if_eq 245 d_Md_goesOn_235 (by decide) (fun c39 => ?_) (fun c39 => ?_)
      · replace h := xpos c39 h
        refine x_aload_n 0 d_Md_goesOn_245 rfl rfl ?_
        refine x_iconst 1 d_Md_goesOn_246 (by decide) ?_
        refine x_callV0v e_Md_198 sh_65 rfl (t_Md_errs 1 V L _ rfl) rfl rfl rfl (Nat.le_of_ble_eq_true rfl) (xfit_of (by omega) (Nat.le_of_ble_eq_true rfl)) (Nat.zero_le _) (Nat.zero_le _) d_Md_goesOn_247 ?_
        obtain rfl := Option.some.inj h
        exact x_return rfl d_Md_goesOn_250 (Nat.le_refl _) (Nat.le_refl _) ⟨rfl, rfl⟩
      · replace h := xneg c39 h
        refine x_aload_n 0 d_Md_goesOn_238 rfl rfl ?_
        obtain ⟨p41, e42, h⟩ := xbind h
        refine x_callV0v e_Md_254 sh_65 rfl (t_Md_clauseIsOver V L _ e42) rfl rfl rfl (Nat.le_of_ble_eq_true rfl) (xfit_of (by omega) (Nat.le_of_ble_eq_true rfl)) (Nat.zero_le _) (Nat.zero_le _) d_Md_goesOn_239 ?_
        refine x_goto 250 d_Md_goesOn_242 (by decide) ?_
        obtain rfl := Option.some.inj h
        exact x_return rfl d_Md_goesOn_250 (Nat.le_refl _) (Nat.le_refl _) ⟨rfl, rfl⟩
  · replace h := xneg c35 h
    refine x_aload_n 0 d_Md_goesOn_186 rfl rfl ?_
    refine x_iconst 3 d_Md_goesOn_187 (by decide) ?_
    obtain ⟨p43, e44, h⟩ := xbind h
    refine x_callV0v e_Md_218 sh_65 rfl (t_Md_works 3 V L _ e44) rfl rfl rfl (Nat.le_of_ble_eq_true rfl) (xfit_of (by omega) (Nat.le_of_ble_eq_true rfl)) (Nat.zero_le _) (Nat.zero_le _) d_Md_goesOn_188 ?_
    refine x_aload_n 0 d_Md_goesOn_191 rfl rfl ?_
    refine x_getP (q := 75) f_Md_45 sh_65 rfl d_Md_goesOn_192 ?_
    refine x_aload_n 0 d_Md_goesOn_195 rfl rfl ?_
    refine x_getI f_Md_192 sh_65 rfl d_Md_goesOn_196 ?_
    obtain ⟨c45, h⟩ := xguard h
    refine x_iaload sh_75 c45 d_Md_goesOn_199 ?_
    refine x_istore_n [(2, .int (p43 75 (p43 65 19).toNatClampNeg)), (0, .ref 65), (1, .int v1)] d_Md_goesOn_200 rfl (Nat.le_of_ble_eq_true rfl) rfl ?_
    refine x_aload_n 1 d_Md_goesOn_201 rfl rfl ?_
    refine x_dup d_Md_goesOn_202 rfl ?_
    refine x_getI f_Md_192 sh_65 rfl d_Md_goesOn_203 ?_
    refine x_iconst 1 d_Md_goesOn_206 (by decide) ?_
    refine x_isub d_Md_goesOn_207 ?_
    refine x_putI f_Md_192 sh_65 rfl rfl rfl d_Md_goesOn_208 ?_
    refine x_aload_n 1 d_Md_goesOn_211 rfl rfl ?_
    refine x_iload_n 0 d_Md_goesOn_212 rfl rfl ?_
    refine x_iconst 0 d_Md_goesOn_213 (by decide) ?_
    obtain ⟨p46, e47, h⟩ := xbind h
    refine x_callV0v e_Md_214 sh_65 rfl (t_Md_emits (p43 75 (p43 65 19).toNatClampNeg) 0 (x2 p43 65 19 ((p43 65 19) - 1)) L _ e47) rfl rfl rfl (Nat.le_of_ble_eq_true rfl) (xfit_of (by omega) (Nat.le_of_ble_eq_true rfl)) (Nat.zero_le _) (Nat.zero_le _) d_Md_goesOn_214 ?_
    refine x_aload_n 1 d_Md_goesOn_217 rfl rfl ?_
    obtain ⟨p48, e49, h⟩ := xbind h
    refine x_callV0v e_Md_251 sh_65 rfl (t_Md_askIsOver p46 L _ e49) rfl rfl rfl (Nat.le_of_ble_eq_true rfl) (xfit_of (by omega) (Nat.le_of_ble_eq_true rfl)) (Nat.zero_le _) (Nat.zero_le _) d_Md_goesOn_218 ?_
    refine x_goto 250 d_Md_goesOn_221 (by decide) ?_
    obtain rfl := Option.some.inj h
    exact x_return rfl d_Md_goesOn_250 (Nat.le_refl _) (Nat.le_refl _) ⟨rfl, rfl⟩
def b_Md_goesOn_116 (v1 : Int32) (V : xV) : Option (xV) := (if ¬ v1 = 4 then b_Md_goesOn_181 v1 V else (if ¬ (V 65 14) = 3 then b_Md_goesOn_181 v1 V else (if (f_Md_isAsking (V 65 15)) = 0 then b_Md_goesOn_181 v1 V else (Option.bind (f_Md_works 3 V) fun p29 => (if xI (p29 65 19) 41 = true then (if xI (((x2 p29 75 ((p29 65 19).toNatClampNeg) (p29 65 15)) 65 19) - 1) 40 = true then (Option.bind (f_Md_next (x2 (x2 p29 75 ((p29 65 19).toNatClampNeg) (p29 65 15)) 74 ((((x2 p29 75 ((p29 65 19).toNatClampNeg) (p29 65 15)) 65 19) - 1).toNatClampNeg) 5)) fun p33 => some (x2 p33 65 25 1)) else none) else none)))))
theorem tb_Md_goesOn_116 {L : xL} (res : xV)  (v1 : Int32) (V : xV) (h : b_Md_goesOn_116 v1 V = some res) : X M_Md_goesOn (xRm (5) M_Md_goesOn) (xZ M_Md_goesOn (fun o h' => o = none ∧ h' = (SH, res, L))) SH V L 0 0 116 [(0, .ref 65), (1, .int v1)] [] := by
  unfold b_Md_goesOn_116 at h
  refine x_iload_n 1 d_Md_goesOn_116 rfl rfl ?_
  refine x_iconst 4 d_Md_goesOn_117 (by decide) ?_
  refine x_icmp_ne 181 d_Md_goesOn_118 (by decide) (fun c25 => ?_) (fun c25 => ?_)
  · replace h := xpos c25 h
    exact tb_Md_goesOn_181 (L := L) res v1 V h
  · replace h := xneg c25 h
    refine x_aload_n 0 d_Md_goesOn_121 rfl rfl ?_
    refine x_getI f_Md_167 sh_65 rfl d_Md_goesOn_122 ?_
    refine x_iconst 3 d_Md_goesOn_125 (by decide) ?_
    refine x_icmp_ne 181 d_Md_goesOn_126 (by decide) (fun c26 => ?_) (fun c26 => ?_)
    · replace h := xpos c26 h
      exact tb_Md_goesOn_181 (L := L) res v1 V h
    · replace h := xneg c26 h
      refine x_aload_n 0 d_Md_goesOn_129 rfl rfl ?_
      refine x_getI f_Md_179 sh_65 rfl d_Md_goesOn_130 ?_
      refine x_callS0 e_Md_248 (t_Md_isAsking (V 65 15) V L _ rfl) rfl rfl rfl (Nat.le_of_ble_eq_true rfl) (xfit_of (by omega) (Nat.le_of_ble_eq_true rfl)) (Nat.zero_le _) (Nat.zero_le _) d_Md_goesOn_133 ?_
      refine x_if_eq 181 d_Md_goesOn_136 (by decide) (fun c28 => ?_) (fun c28 => ?_)
      · replace h := xpos c28 h
        exact tb_Md_goesOn_181 (L := L) res v1 V h
      · replace h := xneg c28 h
        refine x_aload_n 0 d_Md_goesOn_139 rfl rfl ?_
        refine x_iconst 3 d_Md_goesOn_140 (by decide) ?_
        obtain ⟨p29, e30, h⟩ := xbind h
        refine x_callV0v e_Md_218 sh_65 rfl (t_Md_works 3 V L _ e30) rfl rfl rfl (Nat.le_of_ble_eq_true rfl) (xfit_of (by omega) (Nat.le_of_ble_eq_true rfl)) (Nat.zero_le _) (Nat.zero_le _) d_Md_goesOn_141 ?_
        refine x_aload_n 0 d_Md_goesOn_144 rfl rfl ?_
        refine x_getP (q := 75) f_Md_45 sh_65 rfl d_Md_goesOn_145 ?_
        refine x_aload_n 0 d_Md_goesOn_148 rfl rfl ?_
        refine x_getI f_Md_192 sh_65 rfl d_Md_goesOn_149 ?_
        refine x_aload_n 0 d_Md_goesOn_152 rfl rfl ?_
        refine x_getI f_Md_179 sh_65 rfl d_Md_goesOn_153 ?_
        obtain ⟨c31, h⟩ := xguard h
        refine x_iastore sh_75 c31 d_Md_goesOn_156 ?_
        refine x_aload_n 0 d_Md_goesOn_157 rfl rfl ?_
        refine x_getP (q := 74) f_Md_42 sh_65 rfl d_Md_goesOn_158 ?_
        refine x_aload_n 0 d_Md_goesOn_161 rfl rfl ?_
        refine x_getI f_Md_192 sh_65 rfl d_Md_goesOn_162 ?_
        refine x_iconst 1 d_Md_goesOn_165 (by decide) ?_
        refine x_isub d_Md_goesOn_166 ?_
        refine x_iconst 5 d_Md_goesOn_167 (by decide) ?_
        obtain ⟨c32, h⟩ := xguard h
        refine x_iastore sh_74 c32 d_Md_goesOn_168 ?_
        refine x_aload_n 0 d_Md_goesOn_169 rfl rfl ?_
        obtain ⟨p33, e34, h⟩ := xbind h
        refine x_callV0v e_Md_204 sh_65 rfl (t_Md_next (x2 (x2 p29 75 ((p29 65 19).toNatClampNeg) (p29 65 15)) 74 ((((x2 p29 75 ((p29 65 19).toNatClampNeg) (p29 65 15)) 65 19) - 1).toNatClampNeg) 5) L _ e34) rfl rfl rfl (Nat.le_of_ble_eq_true rfl) (xfit_of (by omega) (Nat.le_of_ble_eq_true rfl)) (Nat.zero_le _) (Nat.zero_le _) d_Md_goesOn_170 ?_
        refine x_aload_n 0 d_Md_goesOn_173 rfl rfl ?_
        refine x_iconst 1 d_Md_goesOn_174 (by decide) ?_
        refine x_putI f_Md_227 sh_65 rfl rfl rfl d_Md_goesOn_175 ?_
        refine x_goto 250 d_Md_goesOn_178 (by decide) ?_
        obtain rfl := Option.some.inj h
        exact x_return rfl d_Md_goesOn_250 (Nat.le_refl _) (Nat.le_refl _) ⟨rfl, rfl⟩
def b_Md_goesOn_65 (v1 : Int32) (V : xV) : Option (xV) := (if ¬ v1 = 6 then b_Md_goesOn_116 v1 V else (if (f_Md_isSign 41 V) = 0 then b_Md_goesOn_116 v1 V else (Option.bind (f_Md_works 3 V) fun p19 => (Option.bind (f_Md_next (x2 (x2 p19 65 19 ((p19 65 19) - 1)) 65 18 (((x2 p19 65 19 ((p19 65 19) - 1)) 65 18) - 1))) fun p21 => (Option.bind (f_Md_oneIsOver p21) fun p23 => some p23)))))
theorem tb_Md_goesOn_65 {L : xL} (res : xV)  (v1 : Int32) (V : xV) (h : b_Md_goesOn_65 v1 V = some res) : X M_Md_goesOn (xRm (5) M_Md_goesOn) (xZ M_Md_goesOn (fun o h' => o = none ∧ h' = (SH, res, L))) SH V L 0 0 65 [(0, .ref 65), (1, .int v1)] [] := by
  unfold b_Md_goesOn_65 at h
  refine x_iload_n 1 d_Md_goesOn_65 rfl rfl ?_
  refine x_bipush 6 d_Md_goesOn_66 (by decide) ?_
  refine x_icmp_ne 116 d_Md_goesOn_68 (by decide) (fun c16 => ?_) (fun c16 => ?_)
  · replace h := xpos c16 h
    exact tb_Md_goesOn_116 (L := L) res v1 V h
  · replace h := xneg c16 h
    refine x_aload_n 0 d_Md_goesOn_71 rfl rfl ?_
    refine x_bipush 41 d_Md_goesOn_72 (by decide) ?_
    refine x_callV0 e_Md_239 sh_65 rfl (t_Md_isSign 41 V L _ rfl) rfl rfl rfl (Nat.le_of_ble_eq_true rfl) (xfit_of (by omega) (Nat.le_of_ble_eq_true rfl)) (Nat.zero_le _) (Nat.zero_le _) d_Md_goesOn_74 ?_
    refine x_if_eq 116 d_Md_goesOn_77 (by decide) (fun c18 => ?_) (fun c18 => ?_)
    · replace h := xpos c18 h
      exact tb_Md_goesOn_116 (L := L) res v1 V h
    · replace h := xneg c18 h
      refine x_aload_n 0 d_Md_goesOn_80 rfl rfl ?_
      refine x_iconst 3 d_Md_goesOn_81 (by decide) ?_
      obtain ⟨p19, e20, h⟩ := xbind h
      refine x_callV0v e_Md_218 sh_65 rfl (t_Md_works 3 V L _ e20) rfl rfl rfl (Nat.le_of_ble_eq_true rfl) (xfit_of (by omega) (Nat.le_of_ble_eq_true rfl)) (Nat.zero_le _) (Nat.zero_le _) d_Md_goesOn_82 ?_
      refine x_aload_n 0 d_Md_goesOn_85 rfl rfl ?_
      refine x_dup d_Md_goesOn_86 rfl ?_
      refine x_getI f_Md_192 sh_65 rfl d_Md_goesOn_87 ?_
      refine x_iconst 1 d_Md_goesOn_90 (by decide) ?_
      refine x_isub d_Md_goesOn_91 ?_
      refine x_putI f_Md_192 sh_65 rfl rfl rfl d_Md_goesOn_92 ?_
      refine x_aload_n 0 d_Md_goesOn_95 rfl rfl ?_
      refine x_dup d_Md_goesOn_96 rfl ?_
      refine x_getI f_Md_195 sh_65 rfl d_Md_goesOn_97 ?_
      refine x_iconst 1 d_Md_goesOn_100 (by decide) ?_
      refine x_isub d_Md_goesOn_101 ?_
      refine x_putI f_Md_195 sh_65 rfl rfl rfl d_Md_goesOn_102 ?_
      refine x_aload_n 0 d_Md_goesOn_105 rfl rfl ?_
      obtain ⟨p21, e22, h⟩ := xbind h
      refine x_callV0v e_Md_204 sh_65 rfl (t_Md_next (x2 (x2 p19 65 19 ((p19 65 19) - 1)) 65 18 (((x2 p19 65 19 ((p19 65 19) - 1)) 65 18) - 1)) L _ e22) rfl rfl rfl (Nat.le_of_ble_eq_true rfl) (xfit_of (by omega) (Nat.le_of_ble_eq_true rfl)) (Nat.zero_le _) (Nat.zero_le _) d_Md_goesOn_106 ?_
      refine x_aload_n 0 d_Md_goesOn_109 rfl rfl ?_
      obtain ⟨p23, e24, h⟩ := xbind h
      refine x_callV0v e_Md_230 sh_65 rfl (t_Md_oneIsOver p21 L _ e24) rfl rfl rfl (Nat.le_of_ble_eq_true rfl) (xfit_of (by omega) (Nat.le_of_ble_eq_true rfl)) (Nat.zero_le _) (Nat.zero_le _) d_Md_goesOn_110 ?_
      refine x_goto 250 d_Md_goesOn_113 (by decide) ?_
      obtain rfl := Option.some.inj h
      exact x_return rfl d_Md_goesOn_250 (Nat.le_refl _) (Nat.le_refl _) ⟨rfl, rfl⟩
def f_Md_goesOn (V : xV) : Option (xV) := (Option.bind (f_Md_top V) fun p1 => (if ¬ (V 65 14) = 3 then b_Md_goesOn_65 p1 V else (if (V 65 15) = 43 then (Option.bind (f_Md_waitsFor (V 65 15) V) fun p5 => some (x2 p5 65 25 1)) else (if (V 65 15) = 45 then (Option.bind (f_Md_waitsFor (V 65 15) V) fun p8 => some (x2 p8 65 25 1)) else (if (V 65 15) = 42 then (Option.bind (f_Md_waitsFor (V 65 15) V) fun p11 => some (x2 p11 65 25 1)) else (if ¬ (V 65 15) = 47 then b_Md_goesOn_65 p1 V else (Option.bind (f_Md_waitsFor (V 65 15) V) fun p14 => some (x2 p14 65 25 1))))))))
theorem t_Md_goesOn  (V : xV) (L : xL) (res : xV) (h : f_Md_goesOn V = some res) : xRuns (5) M_Md_goesOn [.ref 65] (SH, V, L) (fun o h' => o = none ∧ h' = (SH, res, L)) := by
  refine xRuns_of (by decide) (Nat.le_of_ble_eq_true rfl) ?_
  unfold f_Md_goesOn at h
  show X M_Md_goesOn (xRm (5) M_Md_goesOn) (xZ M_Md_goesOn (fun o h' => o = none ∧ h' = (SH, res, L))) SH V L 0 0 0 [(0, .ref 65)] []
  refine x_aload_n 0 d_Md_goesOn_0 rfl rfl ?_
  obtain ⟨p1, e2, h⟩ := xbind h
  refine x_callV0 e_Md_242 sh_65 rfl (t_Md_top V L _ e2) rfl rfl rfl (Nat.le_of_ble_eq_true rfl) (xfit_of (by omega) (Nat.le_of_ble_eq_true rfl)) (Nat.zero_le _) (Nat.zero_le _) d_Md_goesOn_1 ?_
  refine x_istore_n [(1, .int p1), (0, .ref 65)] d_Md_goesOn_4 rfl (Nat.le_of_ble_eq_true rfl) rfl ?_
  refine x_aload_n 1 d_Md_goesOn_5 rfl rfl ?_
  refine x_getI f_Md_167 sh_65 rfl d_Md_goesOn_6 ?_
  refine x_iconst 3 d_Md_goesOn_9 (by decide) ?_
  refine x_icmp_ne 65 d_Md_goesOn_10 (by decide) (fun c3 => ?_) (fun c3 => ?_)
  · replace h := xpos c3 h
    refine x_pick [1, 0] rfl ?_
    exact tb_Md_goesOn_65 (L := L) res p1 V h
  · replace h := xneg c3 h
    refine x_aload_n 1 d_Md_goesOn_13 rfl rfl ?_
    refine x_getI f_Md_179 sh_65 rfl d_Md_goesOn_14 ?_
    refine x_bipush 43 d_Md_goesOn_17 (by decide) ?_
    refine x_icmp_eq 49 d_Md_goesOn_19 (by decide) (fun c4 => ?_) (fun c4 => ?_)
    · replace h := xpos c4 h
      refine x_aload_n 1 d_Md_goesOn_49 rfl rfl ?_
      refine x_aload_n 1 d_Md_goesOn_50 rfl rfl ?_
      refine x_getI f_Md_179 sh_65 rfl d_Md_goesOn_51 ?_
      obtain ⟨p5, e6, h⟩ := xbind h
      refine x_callV0v e_Md_245 sh_65 rfl (t_Md_waitsFor (V 65 15) V L _ e6) rfl rfl rfl (Nat.le_of_ble_eq_true rfl) (xfit_of (by omega) (Nat.le_of_ble_eq_true rfl)) (Nat.zero_le _) (Nat.zero_le _) d_Md_goesOn_54 ?_
      refine x_aload_n 1 d_Md_goesOn_57 rfl rfl ?_
      refine x_iconst 1 d_Md_goesOn_58 (by decide) ?_
      refine x_putI f_Md_227 sh_65 rfl rfl rfl d_Md_goesOn_59 ?_
      refine x_goto 250 d_Md_goesOn_62 (by decide) ?_
      obtain rfl := Option.some.inj h
      exact x_return rfl d_Md_goesOn_250 (Nat.le_refl _) (Nat.le_refl _) ⟨rfl, rfl⟩
    · replace h := xneg c4 h
      refine x_aload_n 1 d_Md_goesOn_22 rfl rfl ?_
      refine x_getI f_Md_179 sh_65 rfl d_Md_goesOn_23 ?_
      refine x_bipush 45 d_Md_goesOn_26 (by decide) ?_
      refine x_icmp_eq 49 d_Md_goesOn_28 (by decide) (fun c7 => ?_) (fun c7 => ?_)
      · replace h := xpos c7 h
        refine x_aload_n 1 d_Md_goesOn_49 rfl rfl ?_
        refine x_aload_n 1 d_Md_goesOn_50 rfl rfl ?_
        refine x_getI f_Md_179 sh_65 rfl d_Md_goesOn_51 ?_
        obtain ⟨p8, e9, h⟩ := xbind h
        refine x_callV0v e_Md_245 sh_65 rfl (t_Md_waitsFor (V 65 15) V L _ e9) rfl rfl rfl (Nat.le_of_ble_eq_true rfl) (xfit_of (by omega) (Nat.le_of_ble_eq_true rfl)) (Nat.zero_le _) (Nat.zero_le _) d_Md_goesOn_54 ?_
        refine x_aload_n 1 d_Md_goesOn_57 rfl rfl ?_
        refine x_iconst 1 d_Md_goesOn_58 (by decide) ?_
        refine x_putI f_Md_227 sh_65 rfl rfl rfl d_Md_goesOn_59 ?_
        refine x_goto 250 d_Md_goesOn_62 (by decide) ?_
        obtain rfl := Option.some.inj h
        exact x_return rfl d_Md_goesOn_250 (Nat.le_refl _) (Nat.le_refl _) ⟨rfl, rfl⟩
      · replace h := xneg c7 h
        refine x_aload_n 1 d_Md_goesOn_31 rfl rfl ?_
        refine x_getI f_Md_179 sh_65 rfl d_Md_goesOn_32 ?_
        refine x_bipush 42 d_Md_goesOn_35 (by decide) ?_
        refine x_icmp_eq 49 d_Md_goesOn_37 (by decide) (fun c10 => ?_) (fun c10 => ?_)
        · replace h := xpos c10 h
          refine x_aload_n 1 d_Md_goesOn_49 rfl rfl ?_
          refine x_aload_n 1 d_Md_goesOn_50 rfl rfl ?_
          refine x_getI f_Md_179 sh_65 rfl d_Md_goesOn_51 ?_
          obtain ⟨p11, e12, h⟩ := xbind h
          refine x_callV0v e_Md_245 sh_65 rfl (t_Md_waitsFor (V 65 15) V L _ e12) rfl rfl rfl (Nat.le_of_ble_eq_true rfl) (xfit_of (by omega) (Nat.le_of_ble_eq_true rfl)) (Nat.zero_le _) (Nat.zero_le _) d_Md_goesOn_54 ?_
          refine x_aload_n 1 d_Md_goesOn_57 rfl rfl ?_
          refine x_iconst 1 d_Md_goesOn_58 (by decide) ?_
          refine x_putI f_Md_227 sh_65 rfl rfl rfl d_Md_goesOn_59 ?_
          refine x_goto 250 d_Md_goesOn_62 (by decide) ?_
          obtain rfl := Option.some.inj h
          exact x_return rfl d_Md_goesOn_250 (Nat.le_refl _) (Nat.le_refl _) ⟨rfl, rfl⟩
        · replace h := xneg c10 h
          refine x_aload_n 1 d_Md_goesOn_40 rfl rfl ?_
          refine x_getI f_Md_179 sh_65 rfl d_Md_goesOn_41 ?_
          refine x_bipush 47 d_Md_goesOn_44 (by decide) ?_
          refine x_icmp_ne 65 d_Md_goesOn_46 (by decide) (fun c13 => ?_) (fun c13 => ?_)
          · replace h := xpos c13 h
            refine x_pick [1, 0] rfl ?_
            exact tb_Md_goesOn_65 (L := L) res p1 V h
          · replace h := xneg c13 h
            refine x_aload_n 1 d_Md_goesOn_49 rfl rfl ?_
            refine x_aload_n 1 d_Md_goesOn_50 rfl rfl ?_
            refine x_getI f_Md_179 sh_65 rfl d_Md_goesOn_51 ?_
            obtain ⟨p14, e15, h⟩ := xbind h
            refine x_callV0v e_Md_245 sh_65 rfl (t_Md_waitsFor (V 65 15) V L _ e15) rfl rfl rfl (Nat.le_of_ble_eq_true rfl) (xfit_of (by omega) (Nat.le_of_ble_eq_true rfl)) (Nat.zero_le _) (Nat.zero_le _) d_Md_goesOn_54 ?_
            refine x_aload_n 1 d_Md_goesOn_57 rfl rfl ?_
            refine x_iconst 1 d_Md_goesOn_58 (by decide) ?_
            refine x_putI f_Md_227 sh_65 rfl rfl rfl d_Md_goesOn_59 ?_
            refine x_goto 250 d_Md_goesOn_62 (by decide) ?_
            obtain rfl := Option.some.inj h
            exact x_return rfl d_Md_goesOn_250 (Nat.le_refl _) (Nat.le_refl _) ⟨rfl, rfl⟩
-- Md_asksOn
def b_Md_asksOn_18 (V : xV) : Option (xV) := (if (f_Md_isWord 6 V) = 0 then (Option.bind (f_Md_waitsFor 406 V) fun p16 => some (x2 p16 65 25 0)) else (Option.bind (f_Md_waitsFor 407 V) fun p18 => some (x2 p18 65 25 0)))
theorem tb_Md_asksOn_18 {L : xL} (res : xV)  (V : xV) (h : b_Md_asksOn_18 V = some res) : X M_Md_asksOn (xRm (5) M_Md_asksOn) (xZ M_Md_asksOn (fun o h' => o = none ∧ h' = (SH, res, L))) SH V L 0 0 18 [(0, .ref 65)] [] := by
  unfold b_Md_asksOn_18 at h
  refine x_aload_n 0 d_Md_asksOn_18 rfl rfl ?_
  refine x_aload_n 0 d_Md_asksOn_19 rfl rfl ?_
  refine x_bipush 6 d_Md_asksOn_20 (by decide) ?_
  refine x_callV0 e_Md_221 sh_65 rfl (t_Md_isWord 6 V L _ rfl) rfl rfl rfl (Nat.le_of_ble_eq_true rfl) (xfit_of (by omega) (Nat.le_of_ble_eq_true rfl)) (Nat.zero_le _) (Nat.zero_le _) d_Md_asksOn_22 ?_
  refine x_if_eq 34 d_Md_asksOn_25 (by decide) (fun c15 => ?_) (fun c15 => ?_)
  · replace h := xpos c15 h
    refine x_sipush 406 d_Md_asksOn_34 (by decide) ?_
    obtain ⟨p16, e17, h⟩ := xbind h
    refine x_callV0v e_Md_245 sh_65 rfl (t_Md_waitsFor 406 V L _ e17) rfl rfl rfl (Nat.le_of_ble_eq_true rfl) (xfit_of (by omega) (Nat.le_of_ble_eq_true rfl)) (Nat.zero_le _) (Nat.zero_le _) d_Md_asksOn_37 ?_
    refine x_aload_n 0 d_Md_asksOn_40 rfl rfl ?_
    refine x_iconst 0 d_Md_asksOn_41 (by decide) ?_
    refine x_putI f_Md_227 sh_65 rfl rfl rfl d_Md_asksOn_42 ?_
    refine x_goto 77 d_Md_asksOn_45 (by decide) ?_
    obtain rfl := Option.some.inj h
    exact x_return rfl d_Md_asksOn_77 (Nat.le_refl _) (Nat.le_refl _) ⟨rfl, rfl⟩
  · replace h := xneg c15 h
    refine x_sipush 407 d_Md_asksOn_28 (by decide) ?_
    refine x_goto 37 d_Md_asksOn_31 (by decide) ?_
    obtain ⟨p18, e19, h⟩ := xbind h
    refine x_callV0v e_Md_245 sh_65 rfl (t_Md_waitsFor 407 V L _ e19) rfl rfl rfl (Nat.le_of_ble_eq_true rfl) (xfit_of (by omega) (Nat.le_of_ble_eq_true rfl)) (Nat.zero_le _) (Nat.zero_le _) d_Md_asksOn_37 ?_
    refine x_aload_n 0 d_Md_asksOn_40 rfl rfl ?_
    refine x_iconst 0 d_Md_asksOn_41 (by decide) ?_
    refine x_putI f_Md_227 sh_65 rfl rfl rfl d_Md_asksOn_42 ?_
    refine x_goto 77 d_Md_asksOn_45 (by decide) ?_
    obtain rfl := Option.some.inj h
    exact x_return rfl d_Md_asksOn_77 (Nat.le_refl _) (Nat.le_refl _) ⟨rfl, rfl⟩
def f_Md_asksOn (V : xV) : Option (xV) := (if ¬ (f_Md_isWord 6 V) = 0 then b_Md_asksOn_18 V else (if (f_Md_isWord 7 V) = 0 then (Option.bind (f_Md_top V) fun p5 => (if ¬ p5 = 2 then some (f_Md_errs 1 V) else (if (f_Md_isSign 59 V) = 0 then some (f_Md_errs 1 V) else (Option.bind (f_Md_clauseIsOver V) fun p12 => some p12)))) else b_Md_asksOn_18 V))
theorem t_Md_asksOn  (V : xV) (L : xL) (res : xV) (h : f_Md_asksOn V = some res) : xRuns (5) M_Md_asksOn [.ref 65] (SH, V, L) (fun o h' => o = none ∧ h' = (SH, res, L)) := by
  refine xRuns_of (by decide) (Nat.le_of_ble_eq_true rfl) ?_
  unfold f_Md_asksOn at h
  show X M_Md_asksOn (xRm (5) M_Md_asksOn) (xZ M_Md_asksOn (fun o h' => o = none ∧ h' = (SH, res, L))) SH V L 0 0 0 [(0, .ref 65)] []
  refine x_aload_n 0 d_Md_asksOn_0 rfl rfl ?_
  refine x_bipush 6 d_Md_asksOn_1 (by decide) ?_
  refine x_callV0 e_Md_221 sh_65 rfl (t_Md_isWord 6 V L _ rfl) rfl rfl rfl (Nat.le_of_ble_eq_true rfl) (xfit_of (by omega) (Nat.le_of_ble_eq_true rfl)) (Nat.zero_le _) (Nat.zero_le _) d_Md_asksOn_3 ?_
  refine x_if_ne 18 d_Md_asksOn_6 (by decide) (fun c2 => ?_) (fun c2 => ?_)
  · replace h := xpos c2 h
    exact tb_Md_asksOn_18 (L := L) res V h
  · replace h := xneg c2 h
    refine x_aload_n 0 d_Md_asksOn_9 rfl rfl ?_
    refine x_bipush 7 d_Md_asksOn_10 (by decide) ?_
    refine x_callV0 e_Md_221 sh_65 rfl (t_Md_isWord 7 V L _ rfl) rfl rfl rfl (Nat.le_of_ble_eq_true rfl) (xfit_of (by omega) (Nat.le_of_ble_eq_true rfl)) (Nat.zero_le _) (Nat.zero_le _) d_Md_asksOn_12 ?_
    refine x_if_eq 48 d_Md_asksOn_15 (by decide) (fun c4 => ?_) (fun c4 => ?_)
    · replace h := xpos c4 h
      refine x_aload_n 0 d_Md_asksOn_48 rfl rfl ?_
      obtain ⟨p5, e6, h⟩ := xbind h
      refine x_callV0 e_Md_242 sh_65 rfl (t_Md_top V L _ e6) rfl rfl rfl (Nat.le_of_ble_eq_true rfl) (xfit_of (by omega) (Nat.le_of_ble_eq_true rfl)) (Nat.zero_le _) (Nat.zero_le _) d_Md_asksOn_49 ?_
      refine x_iconst 2 d_Md_asksOn_52 (by decide) ?_
      refine x_icmp_ne 72 d_Md_asksOn_53 (by decide) (fun c7 => ?_) (fun c7 => ?_)
      · replace h := xpos c7 h
        refine x_aload_n 0 d_Md_asksOn_72 rfl rfl ?_
        refine x_iconst 1 d_Md_asksOn_73 (by decide) ?_
        refine x_callV0v e_Md_198 sh_65 rfl (t_Md_errs 1 V L _ rfl) rfl rfl rfl (Nat.le_of_ble_eq_true rfl) (xfit_of (by omega) (Nat.le_of_ble_eq_true rfl)) (Nat.zero_le _) (Nat.zero_le _) d_Md_asksOn_74 ?_
        obtain rfl := Option.some.inj h
        exact x_return rfl d_Md_asksOn_77 (Nat.le_refl _) (Nat.le_refl _) ⟨rfl, rfl⟩
      · replace h := xneg c7 h
        refine x_aload_n 0 d_Md_asksOn_56 rfl rfl ?_
        refine x_bipush 59 d_Md_asksOn_57 (by decide) ?_
        refine x_callV0 e_Md_239 sh_65 rfl (t_Md_isSign 59 V L _ rfl) rfl rfl rfl (Nat.le_of_ble_eq_true rfl) (xfit_of (by omega) (Nat.le_of_ble_eq_true rfl)) (Nat.zero_le _) (Nat.zero_le _) d_Md_asksOn_59 ?_
        refine x_if_eq 72 d_Md_asksOn_62 (by decide) (fun c10 => ?_) (fun c10 => ?_)
        · replace h := xpos c10 h
          refine x_aload_n 0 d_Md_asksOn_72 rfl rfl ?_
          refine x_iconst 1 d_Md_asksOn_73 (by decide) ?_
          refine x_callV0v e_Md_198 sh_65 rfl (t_Md_errs 1 V L _ rfl) rfl rfl rfl (Nat.le_of_ble_eq_true rfl) (xfit_of (by omega) (Nat.le_of_ble_eq_true rfl)) (Nat.zero_le _) (Nat.zero_le _) d_Md_asksOn_74 ?_
          obtain rfl := Option.some.inj h
          exact x_return rfl d_Md_asksOn_77 (Nat.le_refl _) (Nat.le_refl _) ⟨rfl, rfl⟩
        · replace h := xneg c10 h
          refine x_aload_n 0 d_Md_asksOn_65 rfl rfl ?_
          obtain ⟨p12, e13, h⟩ := xbind h
          refine x_callV0v e_Md_254 sh_65 rfl (t_Md_clauseIsOver V L _ e13) rfl rfl rfl (Nat.le_of_ble_eq_true rfl) (xfit_of (by omega) (Nat.le_of_ble_eq_true rfl)) (Nat.zero_le _) (Nat.zero_le _) d_Md_asksOn_66 ?_
          refine x_goto 77 d_Md_asksOn_69 (by decide) ?_
          obtain rfl := Option.some.inj h
          exact x_return rfl d_Md_asksOn_77 (Nat.le_refl _) (Nat.le_refl _) ⟨rfl, rfl⟩
    · replace h := xneg c4 h
      exact tb_Md_asksOn_18 (L := L) res V h
-- Md_clause
def b_Md_clause_118 (v1 : Int32) (s0 : Int32) (V : xV) : Option (xV) := (Option.bind (f_Md_opensFrame s0 V) fun p17 => (if v1 = 0 then some (x2 p17 65 25 1) else some (x2 p17 65 25 0)))
theorem tb_Md_clause_118 {L : xL} (res : xV)  (v1 : Int32) (s0 : Int32) (V : xV) (h : b_Md_clause_118 v1 s0 V = some res) : X M_Md_clause (xRm (4) M_Md_clause) (xZ M_Md_clause (fun o h' => o = none ∧ h' = (SH, res, L))) SH V L 0 0 118 [(0, .ref 65), (1, .int v1)] [.int s0, .ref 65] := by
  unfold b_Md_clause_118 at h
  obtain ⟨p17, e18, h⟩ := xbind h
  refine x_callV0v e_Md_201 sh_65 rfl (t_Md_opensFrame s0 V L _ e18) rfl rfl rfl (Nat.le_of_ble_eq_true rfl) (xfit_of (by omega) (Nat.le_of_ble_eq_true rfl)) (Nat.zero_le _) (Nat.zero_le _) d_Md_clause_118 ?_
  refine x_aload_n 0 d_Md_clause_121 rfl rfl ?_
  refine x_iload_n 1 d_Md_clause_122 rfl rfl ?_
  refine x_if_eq 130 d_Md_clause_123 (by decide) (fun c19 => ?_) (fun c19 => ?_)
  · replace h := xpos c19 h
    refine x_iconst 1 d_Md_clause_130 (by decide) ?_
    refine x_putI f_Md_227 sh_65 rfl rfl rfl d_Md_clause_131 ?_
    obtain rfl := Option.some.inj h
    exact x_return rfl d_Md_clause_134 (Nat.le_refl _) (Nat.le_refl _) ⟨rfl, rfl⟩
  · replace h := xneg c19 h
    refine x_iconst 0 d_Md_clause_126 (by decide) ?_
    refine x_goto 131 d_Md_clause_127 (by decide) ?_
    refine x_putI f_Md_227 sh_65 rfl rfl rfl d_Md_clause_131 ?_
    obtain rfl := Option.some.inj h
    exact x_return rfl d_Md_clause_134 (Nat.le_refl _) (Nat.le_refl _) ⟨rfl, rfl⟩
def b_Md_clause_102 (V : xV) : Option (xV) := b_Md_clause_118 1 2 V
theorem tb_Md_clause_102 {L : xL} (res : xV)  (V : xV) (h : b_Md_clause_102 V = some res) : X M_Md_clause (xRm (4) M_Md_clause) (xZ M_Md_clause (fun o h' => o = none ∧ h' = (SH, res, L))) SH V L 0 0 102 [(0, .ref 65)] [] := by
  unfold b_Md_clause_102 at h
  refine x_iconst 1 d_Md_clause_102 (by decide) ?_
  refine x_goto 107 d_Md_clause_103 (by decide) ?_
  refine x_istore_n [(1, .int 1), (0, .ref 65)] d_Md_clause_107 rfl (Nat.le_of_ble_eq_true rfl) rfl ?_
  refine x_aload_n 1 d_Md_clause_108 rfl rfl ?_
  refine x_iload_n 0 d_Md_clause_109 rfl rfl ?_
  refine x_if_eq 117 d_Md_clause_110 (by decide) (fun c => absurd c (by decide)) (fun _ => ?_)
  refine x_iconst 2 d_Md_clause_113 (by decide) ?_
  refine x_goto 118 d_Md_clause_114 (by decide) ?_
  refine x_pick [1, 0] rfl ?_
  exact tb_Md_clause_118 (L := L) res 1 2 V h
def f_Md_clause (V : xV) : Option (xV) := (if ¬ (V 65 14) = 1 then some (f_Md_errs 1 V) else (if (V 65 15) ≤ 5 then (if xI ((x2 V 65 27 (V 65 15)) 65 27) 6 = true then (if ((x2 V 65 27 (V 65 15)) 78 ((x2 V 65 27 (V 65 15)) 65 27).toNatClampNeg) = (-1) then (if xI ((x2 V 65 27 (V 65 15)) 65 27) 6 = true then (if xI ((x2 (x2 V 65 27 (V 65 15)) 78 (((x2 V 65 27 (V 65 15)) 65 27).toNatClampNeg) ((x2 V 65 27 (V 65 15)) 65 30)) 65 27) 6 = true then (Option.bind (f_Md_next (x2 (x2 (x2 V 65 27 (V 65 15)) 78 (((x2 V 65 27 (V 65 15)) 65 27).toNatClampNeg) ((x2 V 65 27 (V 65 15)) 65 30)) 79 (((x2 (x2 V 65 27 (V 65 15)) 78 (((x2 V 65 27 (V 65 15)) 65 27).toNatClampNeg) ((x2 V 65 27 (V 65 15)) 65 30)) 65 27).toNatClampNeg) ((x2 (x2 V 65 27 (V 65 15)) 78 (((x2 V 65 27 (V 65 15)) 65 27).toNatClampNeg) ((x2 V 65 27 (V 65 15)) 65 30)) 65 26))) fun p8 => (if (p8 65 27) = 0 then b_Md_clause_102 p8 else (if (p8 65 27) = 1 then b_Md_clause_102 p8 else (if ¬ (p8 65 27) = 4 then b_Md_clause_118 0 1 p8 else b_Md_clause_102 p8)))) else none) else none) else some (f_Md_errs 4 (x2 V 65 27 (V 65 15)))) else none) else some (f_Md_errs 1 V)))
theorem t_Md_clause  (V : xV) (L : xL) (res : xV) (h : f_Md_clause V = some res) : xRuns (4) M_Md_clause [.ref 65] (SH, V, L) (fun o h' => o = none ∧ h' = (SH, res, L)) := by
  refine xRuns_of (by decide) (Nat.le_of_ble_eq_true rfl) ?_
  unfold f_Md_clause at h
  show X M_Md_clause (xRm (4) M_Md_clause) (xZ M_Md_clause (fun o h' => o = none ∧ h' = (SH, res, L))) SH V L 0 0 0 [(0, .ref 65)] []
  refine x_aload_n 0 d_Md_clause_0 rfl rfl ?_
  refine x_getI f_Md_167 sh_65 rfl d_Md_clause_1 ?_
  refine x_iconst 1 d_Md_clause_4 (by decide) ?_
  refine x_icmp_ne 16 d_Md_clause_5 (by decide) (fun c1 => ?_) (fun c1 => ?_)
  · replace h := xpos c1 h
    refine x_aload_n 0 d_Md_clause_16 rfl rfl ?_
    refine x_iconst 1 d_Md_clause_17 (by decide) ?_
    refine x_callV0v e_Md_198 sh_65 rfl (t_Md_errs 1 V L _ rfl) rfl rfl rfl (Nat.le_of_ble_eq_true rfl) (xfit_of (by omega) (Nat.le_of_ble_eq_true rfl)) (Nat.zero_le _) (Nat.zero_le _) d_Md_clause_18 ?_
    obtain rfl := Option.some.inj h
    exact x_return rfl d_Md_clause_21 (Nat.le_refl _) (Nat.le_refl _) ⟨rfl, rfl⟩
  · replace h := xneg c1 h
    refine x_aload_n 0 d_Md_clause_8 rfl rfl ?_
    refine x_getI f_Md_179 sh_65 rfl d_Md_clause_9 ?_
    refine x_iconst 5 d_Md_clause_12 (by decide) ?_
    refine x_icmp_le 22 d_Md_clause_13 (by decide) (fun c3 => ?_) (fun c3 => ?_)
    · replace h := xpos c3 h
      refine x_aload_n 0 d_Md_clause_22 rfl rfl ?_
      refine x_aload_n 0 d_Md_clause_23 rfl rfl ?_
      refine x_getI f_Md_179 sh_65 rfl d_Md_clause_24 ?_
      refine x_putI f_Md_233 sh_65 rfl rfl rfl d_Md_clause_27 ?_
      refine x_aload_n 0 d_Md_clause_30 rfl rfl ?_
      refine x_getP (q := 78) f_Md_54 sh_65 rfl d_Md_clause_31 ?_
      refine x_aload_n 0 d_Md_clause_34 rfl rfl ?_
      refine x_getI f_Md_233 sh_65 rfl d_Md_clause_35 ?_
      obtain ⟨c4, h⟩ := xguard h
      refine x_iaload sh_78 c4 d_Md_clause_38 ?_
      refine x_iconst (-1) d_Md_clause_39 (by decide) ?_
      refine x_icmp_eq 49 d_Md_clause_40 (by decide) (fun c5 => ?_) (fun c5 => ?_)
      · replace h := xpos c5 h
        refine x_aload_n 0 d_Md_clause_49 rfl rfl ?_
        refine x_getP (q := 78) f_Md_54 sh_65 rfl d_Md_clause_50 ?_
        refine x_aload_n 0 d_Md_clause_53 rfl rfl ?_
        refine x_getI f_Md_233 sh_65 rfl d_Md_clause_54 ?_
        refine x_aload_n 0 d_Md_clause_57 rfl rfl ?_
        refine x_getI f_Md_189 sh_65 rfl d_Md_clause_58 ?_
        obtain ⟨c6, h⟩ := xguard h
        refine x_iastore sh_78 c6 d_Md_clause_61 ?_
        refine x_aload_n 0 d_Md_clause_62 rfl rfl ?_
        refine x_getP (q := 79) f_Md_57 sh_65 rfl d_Md_clause_63 ?_
        refine x_aload_n 0 d_Md_clause_66 rfl rfl ?_
        refine x_getI f_Md_233 sh_65 rfl d_Md_clause_67 ?_
        refine x_aload_n 0 d_Md_clause_70 rfl rfl ?_
        refine x_getI f_Md_257 sh_65 rfl d_Md_clause_71 ?_
        obtain ⟨c7, h⟩ := xguard h
        refine x_iastore sh_79 c7 d_Md_clause_74 ?_
        refine x_aload_n 0 d_Md_clause_75 rfl rfl ?_
        obtain ⟨p8, e9, h⟩ := xbind h
        refine x_callV0v e_Md_204 sh_65 rfl (t_Md_next (x2 (x2 (x2 V 65 27 (V 65 15)) 78 (((x2 V 65 27 (V 65 15)) 65 27).toNatClampNeg) ((x2 V 65 27 (V 65 15)) 65 30)) 79 (((x2 (x2 V 65 27 (V 65 15)) 78 (((x2 V 65 27 (V 65 15)) 65 27).toNatClampNeg) ((x2 V 65 27 (V 65 15)) 65 30)) 65 27).toNatClampNeg) ((x2 (x2 V 65 27 (V 65 15)) 78 (((x2 V 65 27 (V 65 15)) 65 27).toNatClampNeg) ((x2 V 65 27 (V 65 15)) 65 30)) 65 26)) L _ e9) rfl rfl rfl (Nat.le_of_ble_eq_true rfl) (xfit_of (by omega) (Nat.le_of_ble_eq_true rfl)) (Nat.zero_le _) (Nat.zero_le _) d_Md_clause_76 ?_
        refine x_aload_n 0 d_Md_clause_79 rfl rfl ?_
        refine x_getI f_Md_233 sh_65 rfl d_Md_clause_80 ?_
        refine x_if_eq 102 d_Md_clause_83 (by decide) (fun c10 => ?_) (fun c10 => ?_)
        · replace h := xpos c10 h
          exact tb_Md_clause_102 (L := L) res p8 h
        · replace h := xneg c10 h
          refine x_aload_n 0 d_Md_clause_86 rfl rfl ?_
          refine x_getI f_Md_233 sh_65 rfl d_Md_clause_87 ?_
          refine x_iconst 1 d_Md_clause_90 (by decide) ?_
          refine x_icmp_eq 102 d_Md_clause_91 (by decide) (fun c11 => ?_) (fun c11 => ?_)
          · replace h := xpos c11 h
            exact tb_Md_clause_102 (L := L) res p8 h
          · replace h := xneg c11 h
            refine x_aload_n 0 d_Md_clause_94 rfl rfl ?_
            refine x_getI f_Md_233 sh_65 rfl d_Md_clause_95 ?_
            refine x_iconst 4 d_Md_clause_98 (by decide) ?_
            refine x_icmp_ne 106 d_Md_clause_99 (by decide) (fun c12 => ?_) (fun c12 => ?_)
            · replace h := xpos c12 h
              refine x_iconst 0 d_Md_clause_106 (by decide) ?_
              refine x_istore_n [(1, .int 0), (0, .ref 65)] d_Md_clause_107 rfl (Nat.le_of_ble_eq_true rfl) rfl ?_
              refine x_aload_n 1 d_Md_clause_108 rfl rfl ?_
              refine x_iload_n 0 d_Md_clause_109 rfl rfl ?_
              refine x_if_eq 117 d_Md_clause_110 (by decide) (fun _ => ?_) (fun c => absurd (by decide) c)
              refine x_iconst 1 d_Md_clause_117 (by decide) ?_
              refine x_pick [1, 0] rfl ?_
              exact tb_Md_clause_118 (L := L) res 0 1 p8 h
            · replace h := xneg c12 h
              exact tb_Md_clause_102 (L := L) res p8 h
      · replace h := xneg c5 h
        refine x_aload_n 0 d_Md_clause_43 rfl rfl ?_
        refine x_iconst 4 d_Md_clause_44 (by decide) ?_
        refine x_callV0v e_Md_198 sh_65 rfl (t_Md_errs 4 (x2 V 65 27 (V 65 15)) L _ rfl) rfl rfl rfl (Nat.le_of_ble_eq_true rfl) (xfit_of (by omega) (Nat.le_of_ble_eq_true rfl)) (Nat.zero_le _) (Nat.zero_le _) d_Md_clause_45 ?_
        obtain rfl := Option.some.inj h
        exact x_return rfl d_Md_clause_48 (Nat.le_refl _) (Nat.le_refl _) ⟨rfl, rfl⟩
    · replace h := xneg c3 h
      refine x_aload_n 0 d_Md_clause_16 rfl rfl ?_
      refine x_iconst 1 d_Md_clause_17 (by decide) ?_
      refine x_callV0v e_Md_198 sh_65 rfl (t_Md_errs 1 V L _ rfl) rfl rfl rfl (Nat.le_of_ble_eq_true rfl) (xfit_of (by omega) (Nat.le_of_ble_eq_true rfl)) (Nat.zero_le _) (Nat.zero_le _) d_Md_clause_18 ?_
      obtain rfl := Option.some.inj h
      exact x_return rfl d_Md_clause_21 (Nat.le_refl _) (Nat.le_refl _) ⟨rfl, rfl⟩
-- Md_text
def b_Md_text_307 (k307 : Int32 → Int32 → xV → Option (Int32 × xV)) (v1 : Int32) (v2 : Int32) (V : xV) : Option (Int32 × xV) := (if (V 65 30) ≤ v2 then some (v1, x2 V 66 2 ((V 66 2) + 1)) else (if xI v2 400 = true then (if xI ((400 * v1) + v2) 1600 = true then (if xI v2 400 = true then (if xI ((400 * v1) + v2) 1600 = true then k307 v1 (v2 + 1) (x2 (x2 V 72 (((400 * v1) + v2).toNatClampNeg) (V 80 v2.toNatClampNeg)) 73 (((400 * v1) + v2).toNatClampNeg) ((x2 V 72 (((400 * v1) + v2).toNatClampNeg) (V 80 v2.toNatClampNeg)) 81 v2.toNatClampNeg)) else none) else none) else none) else none))
theorem tb_Md_text_307 {L : xL} (k307 : Int32 → Int32 → xV → Option (Int32 × xV)) (res : Int32 × xV) (hk307 : ∀ (v1 : Int32) (v2 : Int32) (V : xV), k307 v1 v2 V = some res → X M_Md_text (xRm (6) M_Md_text) (xZ M_Md_text (fun o h' => o = some (.int res.1) ∧ h' = (SH, res.2, L))) SH V L 0 0 307 [(0, .ref 65), (1, .int v1), (2, .int v2)] []) (v1 : Int32) (v2 : Int32) (V : xV) (h : b_Md_text_307 k307 v1 v2 V = some res) : X M_Md_text (xRm (6) M_Md_text) (xZ M_Md_text (fun o h' => o = some (.int res.1) ∧ h' = (SH, res.2, L))) SH V L 0 0 307 [(0, .ref 65), (1, .int v1), (2, .int v2)] [] := by
  unfold b_Md_text_307 at h
  refine x_iload_n 2 d_Md_text_307 rfl rfl ?_
  refine x_aload_n 0 d_Md_text_308 rfl rfl ?_
  refine x_getI f_Md_189 sh_65 rfl d_Md_text_309 ?_
  refine x_icmp_ge 357 d_Md_text_312 (by decide) (fun c33 => ?_) (fun c33 => ?_)
  · replace h := xpos c33 h
    refine x_aload_n 0 d_Md_text_357 rfl rfl ?_
    refine x_getP (q := 66) f_Md_7 sh_65 rfl d_Md_text_358 ?_
    refine x_iconst 2 d_Md_text_361 (by decide) ?_
    refine x_dup2 d_Md_text_362 rfl rfl ?_
    refine x_ialoadC 2 sh_66 (by decide) (by decide) d_Md_text_363 ?_
    refine x_iconst 1 d_Md_text_364 (by decide) ?_
    refine x_iadd d_Md_text_365 ?_
    refine x_iastoreC 2 sh_66 (by decide) (by decide) d_Md_text_366 ?_
    refine x_iload_n 1 d_Md_text_367 rfl rfl ?_
    obtain rfl := Option.some.inj h
    exact x_ireturn rfl d_Md_text_368 (Nat.le_refl _) (Nat.le_refl _) ⟨rfl, rfl⟩
  · replace h := xneg c33 h
    refine x_aload_n 0 d_Md_text_315 rfl rfl ?_
    refine x_getP (q := 72) f_Md_36 sh_65 rfl d_Md_text_316 ?_
    refine x_sipush 400 d_Md_text_319 (by decide) ?_
    refine x_iload_n 1 d_Md_text_322 rfl rfl ?_
    refine x_imul d_Md_text_323 ?_
    refine x_iload_n 2 d_Md_text_324 rfl rfl ?_
    refine x_iadd d_Md_text_325 ?_
    refine x_aload_n 0 d_Md_text_326 rfl rfl ?_
    refine x_getP (q := 80) f_Md_60 sh_65 rfl d_Md_text_327 ?_
    refine x_iload_n 2 d_Md_text_330 rfl rfl ?_
    obtain ⟨c34, h⟩ := xguard h
    refine x_iaload sh_80 c34 d_Md_text_331 ?_
    obtain ⟨c35, h⟩ := xguard h
    refine x_iastore sh_72 c35 d_Md_text_332 ?_
    refine x_aload_n 0 d_Md_text_333 rfl rfl ?_
    refine x_getP (q := 73) f_Md_39 sh_65 rfl d_Md_text_334 ?_
    refine x_sipush 400 d_Md_text_337 (by decide) ?_
    refine x_iload_n 1 d_Md_text_340 rfl rfl ?_
    refine x_imul d_Md_text_341 ?_
    refine x_iload_n 2 d_Md_text_342 rfl rfl ?_
    refine x_iadd d_Md_text_343 ?_
    refine x_aload_n 0 d_Md_text_344 rfl rfl ?_
    refine x_getP (q := 81) f_Md_63 sh_65 rfl d_Md_text_345 ?_
    refine x_iload_n 2 d_Md_text_348 rfl rfl ?_
    obtain ⟨c36, h⟩ := xguard h
    refine x_iaload sh_81 c36 d_Md_text_349 ?_
    obtain ⟨c37, h⟩ := xguard h
    refine x_iastore sh_73 c37 d_Md_text_350 ?_
    refine x_iinc 2 1 [(2, .int (v2 + 1)), (0, .ref 65), (1, .int v1)] d_Md_text_351 rfl (by decide) (Nat.le_of_ble_eq_true rfl) rfl ?_
    refine x_goto 307 d_Md_text_354 (by decide) ?_
    refine x_pick [1, 2, 0] rfl ?_
    exact hk307 v1 (v2 + 1) (x2 (x2 V 72 (((400 * v1) + v2).toNatClampNeg) (V 80 v2.toNatClampNeg)) 73 (((400 * v1) + v2).toNatClampNeg) ((x2 V 72 (((400 * v1) + v2).toNatClampNeg) (V 80 v2.toNatClampNeg)) 81 v2.toNatClampNeg)) h
def g_Md_text_307  : Nat → Int32 → Int32 → xV → Option (Int32 × xV)
  | 0, _, _, _ => none
  | n + 1, v1, v2, V => b_Md_text_307 (g_Md_text_307  n) v1 v2 V
theorem tg_Md_text_307 {L : xL} (res : Int32 × xV)  : ∀ (n : Nat) (v1 : Int32) (v2 : Int32) (V : xV), g_Md_text_307  n v1 v2 V = some res → X M_Md_text (xRm (6) M_Md_text) (xZ M_Md_text (fun o h' => o = some (.int res.1) ∧ h' = (SH, res.2, L))) SH V L 0 0 307 [(0, .ref 65), (1, .int v1), (2, .int v2)] []
  | 0, _, _, _, h => by cases h
  | n + 1, v1, v2, V, h => tb_Md_text_307 (L := L) (g_Md_text_307  n) res (tg_Md_text_307 (L := L) res n) v1 v2 V h
def b_Md_text_281 (k239 : Int32 → Int32 → xV → Option (Int32 × xV)) (v1 : Int32) (v2 : Int32) (s0 : Int32) (s1 : Int32) (V : xV) : Option (Int32 × xV) := (if xI s1 24 = true then (if xI v2 6 = true then (if xI ((6 * v1) + v2) 24 = true then k239 v1 (v2 + 1) (x2 (x2 V 70 s1.toNatClampNeg s0) 71 (((6 * v1) + v2).toNatClampNeg) ((x2 V 70 s1.toNatClampNeg s0) 79 v2.toNatClampNeg)) else none) else none) else none)
theorem tb_Md_text_281 {L : xL} (k239 : Int32 → Int32 → xV → Option (Int32 × xV)) (res : Int32 × xV) (hk239 : ∀ (v1 : Int32) (v2 : Int32) (V : xV), k239 v1 v2 V = some res → X M_Md_text (xRm (6) M_Md_text) (xZ M_Md_text (fun o h' => o = some (.int res.1) ∧ h' = (SH, res.2, L))) SH V L 0 0 239 [(0, .ref 65), (1, .int v1), (2, .int v2)] []) (v1 : Int32) (v2 : Int32) (s0 : Int32) (s1 : Int32) (V : xV) (h : b_Md_text_281 k239 v1 v2 s0 s1 V = some res) : X M_Md_text (xRm (6) M_Md_text) (xZ M_Md_text (fun o h' => o = some (.int res.1) ∧ h' = (SH, res.2, L))) SH V L 0 0 281 [(0, .ref 65), (1, .int v1), (2, .int v2)] [.int s0, .int s1, .ref 70] := by
  unfold b_Md_text_281 at h
  obtain ⟨c30, h⟩ := xguard h
  refine x_iastore sh_70 c30 d_Md_text_281 ?_
  refine x_aload_n 0 d_Md_text_282 rfl rfl ?_
  refine x_getP (q := 71) f_Md_33 sh_65 rfl d_Md_text_283 ?_
  refine x_bipush 6 d_Md_text_286 (by decide) ?_
  refine x_iload_n 1 d_Md_text_288 rfl rfl ?_
  refine x_imul d_Md_text_289 ?_
  refine x_iload_n 2 d_Md_text_290 rfl rfl ?_
  refine x_iadd d_Md_text_291 ?_
  refine x_aload_n 0 d_Md_text_292 rfl rfl ?_
  refine x_getP (q := 79) f_Md_57 sh_65 rfl d_Md_text_293 ?_
  refine x_iload_n 2 d_Md_text_296 rfl rfl ?_
  obtain ⟨c31, h⟩ := xguard h
  refine x_iaload sh_79 c31 d_Md_text_297 ?_
  obtain ⟨c32, h⟩ := xguard h
  refine x_iastore sh_71 c32 d_Md_text_298 ?_
  refine x_iinc 2 1 [(2, .int (v2 + 1)), (0, .ref 65), (1, .int v1)] d_Md_text_299 rfl (by decide) (Nat.le_of_ble_eq_true rfl) rfl ?_
  refine x_goto 239 d_Md_text_302 (by decide) ?_
  refine x_pick [1, 2, 0] rfl ?_
  exact hk239 v1 (v2 + 1) (x2 (x2 V 70 s1.toNatClampNeg s0) 71 (((6 * v1) + v2).toNatClampNeg) ((x2 V 70 s1.toNatClampNeg s0) 79 v2.toNatClampNeg)) h
def b_Md_text_239 (k239 : Int32 → Int32 → xV → Option (Int32 × xV)) (v1 : Int32) (v2 : Int32) (V : xV) : Option (Int32 × xV) := (if 6 ≤ v2 then g_Md_text_307 2000 v1 0 V else (if xI v2 6 = true then (if ¬ (V 78 v2.toNatClampNeg) = (-1) then (if xI v2 6 = true then b_Md_text_281 k239 v1 v2 ((400 * v1) + (V 78 v2.toNatClampNeg)) ((6 * v1) + v2) V else none) else b_Md_text_281 k239 v1 v2 (-1) ((6 * v1) + v2) V) else none))
theorem tb_Md_text_239 {L : xL} (k239 : Int32 → Int32 → xV → Option (Int32 × xV)) (res : Int32 × xV) (hk239 : ∀ (v1 : Int32) (v2 : Int32) (V : xV), k239 v1 v2 V = some res → X M_Md_text (xRm (6) M_Md_text) (xZ M_Md_text (fun o h' => o = some (.int res.1) ∧ h' = (SH, res.2, L))) SH V L 0 0 239 [(0, .ref 65), (1, .int v1), (2, .int v2)] []) (v1 : Int32) (v2 : Int32) (V : xV) (h : b_Md_text_239 k239 v1 v2 V = some res) : X M_Md_text (xRm (6) M_Md_text) (xZ M_Md_text (fun o h' => o = some (.int res.1) ∧ h' = (SH, res.2, L))) SH V L 0 0 239 [(0, .ref 65), (1, .int v1), (2, .int v2)] [] := by
  unfold b_Md_text_239 at h
  refine x_iload_n 2 d_Md_text_239 rfl rfl ?_
  refine x_bipush 6 d_Md_text_240 (by decide) ?_
  refine x_icmp_ge 305 d_Md_text_242 (by decide) (fun c26 => ?_) (fun c26 => ?_)
  · replace h := xpos c26 h
    refine x_iconst 0 d_Md_text_305 (by decide) ?_
    refine x_istore_n [(2, .int 0), (0, .ref 65), (1, .int v1)] d_Md_text_306 rfl (Nat.le_of_ble_eq_true rfl) rfl ?_
    refine x_pick [1, 2, 0] rfl ?_
    exact tg_Md_text_307 (L := L) res _ v1 0 V h
  · replace h := xneg c26 h
    refine x_aload_n 0 d_Md_text_245 rfl rfl ?_
    refine x_getP (q := 70) f_Md_30 sh_65 rfl d_Md_text_246 ?_
    refine x_bipush 6 d_Md_text_249 (by decide) ?_
    refine x_iload_n 1 d_Md_text_251 rfl rfl ?_
    refine x_imul d_Md_text_252 ?_
    refine x_iload_n 2 d_Md_text_253 rfl rfl ?_
    refine x_iadd d_Md_text_254 ?_
    refine x_aload_n 0 d_Md_text_255 rfl rfl ?_
    refine x_getP (q := 78) f_Md_54 sh_65 rfl d_Md_text_256 ?_
    refine x_iload_n 2 d_Md_text_259 rfl rfl ?_
    obtain ⟨c27, h⟩ := xguard h
    refine x_iaload sh_78 c27 d_Md_text_260 ?_
    refine x_iconst (-1) d_Md_text_261 (by decide) ?_
    refine x_icmp_ne 269 d_Md_text_262 (by decide) (fun c28 => ?_) (fun c28 => ?_)
    · replace h := xpos c28 h
      refine x_sipush 400 d_Md_text_269 (by decide) ?_
      refine x_iload_n 1 d_Md_text_272 rfl rfl ?_
      refine x_imul d_Md_text_273 ?_
      refine x_aload_n 0 d_Md_text_274 rfl rfl ?_
      refine x_getP (q := 78) f_Md_54 sh_65 rfl d_Md_text_275 ?_
      refine x_iload_n 2 d_Md_text_278 rfl rfl ?_
      obtain ⟨c29, h⟩ := xguard h
      refine x_iaload sh_78 c29 d_Md_text_279 ?_
      refine x_iadd d_Md_text_280 ?_
      exact tb_Md_text_281 (L := L) k239 res hk239 v1 v2 ((400 * v1) + (V 78 v2.toNatClampNeg)) ((6 * v1) + v2) V h
    · replace h := xneg c28 h
      refine x_iconst (-1) d_Md_text_265 (by decide) ?_
      refine x_goto 281 d_Md_text_266 (by decide) ?_
      exact tb_Md_text_281 (L := L) k239 res hk239 v1 v2 (-1) ((6 * v1) + v2) V h
def g_Md_text_239  : Nat → Int32 → Int32 → xV → Option (Int32 × xV)
  | 0, _, _, _ => none
  | n + 1, v1, v2, V => b_Md_text_239 (g_Md_text_239  n) v1 v2 V
theorem tg_Md_text_239 {L : xL} (res : Int32 × xV)  : ∀ (n : Nat) (v1 : Int32) (v2 : Int32) (V : xV), g_Md_text_239  n v1 v2 V = some res → X M_Md_text (xRm (6) M_Md_text) (xZ M_Md_text (fun o h' => o = some (.int res.1) ∧ h' = (SH, res.2, L))) SH V L 0 0 239 [(0, .ref 65), (1, .int v1), (2, .int v2)] []
  | 0, _, _, _, h => by cases h
  | n + 1, v1, v2, V, h => tb_Md_text_239 (L := L) (g_Md_text_239  n) res (tg_Md_text_239 (L := L) res n) v1 v2 V h
def b_Md_text_195 (V : xV) : Option (Int32 × xV) := (if ((x2 (x2 V 65 4 (V 65 16)) 65 5 ((x2 V 65 4 (V 65 16)) 65 17)) 65 16) ≤ 0 then (if xI ((x2 (x2 V 65 4 (V 65 16)) 65 5 ((x2 V 65 4 (V 65 16)) 65 17)) 66 2) 4 = true then g_Md_text_239 2000 ((x2 (x2 V 65 4 (V 65 16)) 65 5 ((x2 V 65 4 (V 65 16)) 65 17)) 66 2) 0 (x2 (x2 (x2 V 65 4 (V 65 16)) 65 5 ((x2 V 65 4 (V 65 16)) 65 17)) 69 (((x2 (x2 V 65 4 (V 65 16)) 65 5 ((x2 V 65 4 (V 65 16)) 65 17)) 66 2).toNatClampNeg) ((x2 (x2 V 65 4 (V 65 16)) 65 5 ((x2 V 65 4 (V 65 16)) 65 17)) 65 26)) else none) else some ((-1), x2 (x2 V 65 4 (V 65 16)) 65 5 ((x2 V 65 4 (V 65 16)) 65 17)))
theorem tb_Md_text_195 {L : xL} (res : Int32 × xV)  (V : xV) (h : b_Md_text_195 V = some res) : X M_Md_text (xRm (6) M_Md_text) (xZ M_Md_text (fun o h' => o = some (.int res.1) ∧ h' = (SH, res.2, L))) SH V L 0 0 195 [(0, .ref 65)] [] := by
  unfold b_Md_text_195 at h
  refine x_aload_n 0 d_Md_text_195 rfl rfl ?_
  refine x_aload_n 0 d_Md_text_196 rfl rfl ?_
  refine x_getI f_Md_183 sh_65 rfl d_Md_text_197 ?_
  refine x_putI f_Md_20 sh_65 rfl rfl rfl d_Md_text_200 ?_
  refine x_aload_n 0 d_Md_text_203 rfl rfl ?_
  refine x_aload_n 0 d_Md_text_204 rfl rfl ?_
  refine x_getI f_Md_186 sh_65 rfl d_Md_text_205 ?_
  refine x_putI f_Md_24 sh_65 rfl rfl rfl d_Md_text_208 ?_
  refine x_aload_n 0 d_Md_text_211 rfl rfl ?_
  refine x_getI f_Md_183 sh_65 rfl d_Md_text_212 ?_
  refine x_if_le 220 d_Md_text_215 (by decide) (fun c24 => ?_) (fun c24 => ?_)
  · replace h := xpos c24 h
    refine x_aload_n 0 d_Md_text_220 rfl rfl ?_
    refine x_getP (q := 66) f_Md_7 sh_65 rfl d_Md_text_221 ?_
    refine x_iconst 2 d_Md_text_224 (by decide) ?_
    refine x_ialoadC 2 sh_66 (by decide) (by decide) d_Md_text_225 ?_
    refine x_istore_n [(1, .int ((x2 (x2 V 65 4 (V 65 16)) 65 5 ((x2 V 65 4 (V 65 16)) 65 17)) 66 2)), (0, .ref 65)] d_Md_text_226 rfl (Nat.le_of_ble_eq_true rfl) rfl ?_
    refine x_aload_n 1 d_Md_text_227 rfl rfl ?_
    refine x_getP (q := 69) f_Md_27 sh_65 rfl d_Md_text_228 ?_
    refine x_iload_n 0 d_Md_text_231 rfl rfl ?_
    refine x_aload_n 1 d_Md_text_232 rfl rfl ?_
    refine x_getI f_Md_257 sh_65 rfl d_Md_text_233 ?_
    obtain ⟨c25, h⟩ := xguard h
    refine x_iastore sh_69 c25 d_Md_text_236 ?_
    refine x_iconst 0 d_Md_text_237 (by decide) ?_
    refine x_istore_n [(2, .int 0), (1, .int ((x2 (x2 V 65 4 (V 65 16)) 65 5 ((x2 V 65 4 (V 65 16)) 65 17)) 66 2)), (0, .ref 65)] d_Md_text_238 rfl (Nat.le_of_ble_eq_true rfl) rfl ?_
    refine x_pick [2, 1, 0] rfl ?_
    exact tg_Md_text_239 (L := L) res _ ((x2 (x2 V 65 4 (V 65 16)) 65 5 ((x2 V 65 4 (V 65 16)) 65 17)) 66 2) 0 (x2 (x2 (x2 V 65 4 (V 65 16)) 65 5 ((x2 V 65 4 (V 65 16)) 65 17)) 69 (((x2 (x2 V 65 4 (V 65 16)) 65 5 ((x2 V 65 4 (V 65 16)) 65 17)) 66 2).toNatClampNeg) ((x2 (x2 V 65 4 (V 65 16)) 65 5 ((x2 V 65 4 (V 65 16)) 65 17)) 65 26)) h
  · replace h := xneg c24 h
    refine x_iconst (-1) d_Md_text_218 (by decide) ?_
    obtain rfl := Option.some.inj h
    exact x_ireturn rfl d_Md_text_219 (Nat.le_refl _) (Nat.le_refl _) ⟨rfl, rfl⟩
def b_Md_text_124 (k102 : xV → Option (Int32 × xV)) (V : xV) : Option (Int32 × xV) := (if (V 65 25) = 0 then (Option.bind (f_Md_asks V) fun p11 => k102 p11) else (if (V 65 25) = 1 then (Option.bind (f_Md_begins V) fun p14 => k102 p14) else (if (V 65 25) = 2 then (Option.bind (f_Md_goesOn V) fun p17 => k102 p17) else (if (V 65 25) = 3 then (Option.bind (f_Md_asksOn V) fun p20 => k102 p20) else (Option.bind (f_Md_clause V) fun p22 => k102 p22)))))
theorem tb_Md_text_124 {L : xL} (k102 : xV → Option (Int32 × xV)) (res : Int32 × xV) (hk102 : ∀ (V : xV), k102 V = some res → X M_Md_text (xRm (6) M_Md_text) (xZ M_Md_text (fun o h' => o = some (.int res.1) ∧ h' = (SH, res.2, L))) SH V L 0 0 102 [(0, .ref 65)] []) (V : xV) (h : b_Md_text_124 k102 V = some res) : X M_Md_text (xRm (6) M_Md_text) (xZ M_Md_text (fun o h' => o = some (.int res.1) ∧ h' = (SH, res.2, L))) SH V L 0 0 124 [(0, .ref 65)] [] := by
  unfold b_Md_text_124 at h
  refine x_aload_n 0 d_Md_text_124 rfl rfl ?_
  refine x_getI f_Md_227 sh_65 rfl d_Md_text_125 ?_
  by_cases c10 : (V 65 25) = 0
  · replace h := xpos c10 h
    refine x_tableIn 32 160 d_Md_text_128 (by rw [c10]; decide) (by rw [c10]; decide) (by rw [c10]; rfl) (by decide) ?_
    refine x_aload_n 0 d_Md_text_160 rfl rfl ?_
    obtain ⟨p11, e12, h⟩ := xbind h
    refine x_callV0v e_Md_260 sh_65 rfl (t_Md_asks V L _ e12) rfl rfl rfl (Nat.le_of_ble_eq_true rfl) (xfit_of (by omega) (Nat.le_of_ble_eq_true rfl)) (Nat.zero_le _) (Nat.zero_le _) d_Md_text_161 ?_
    refine x_goto 102 d_Md_text_164 (by decide) ?_
    exact hk102 p11 h
  replace h := xneg c10 h
  by_cases c13 : (V 65 25) = 1
  · replace h := xpos c13 h
    refine x_tableIn 39 167 d_Md_text_128 (by rw [c13]; decide) (by rw [c13]; decide) (by rw [c13]; rfl) (by decide) ?_
    refine x_aload_n 0 d_Md_text_167 rfl rfl ?_
    obtain ⟨p14, e15, h⟩ := xbind h
    refine x_callV0v e_Md_263 sh_65 rfl (t_Md_begins V L _ e15) rfl rfl rfl (Nat.le_of_ble_eq_true rfl) (xfit_of (by omega) (Nat.le_of_ble_eq_true rfl)) (Nat.zero_le _) (Nat.zero_le _) d_Md_text_168 ?_
    refine x_goto 102 d_Md_text_171 (by decide) ?_
    exact hk102 p14 h
  replace h := xneg c13 h
  by_cases c16 : (V 65 25) = 2
  · replace h := xpos c16 h
    refine x_tableIn 46 174 d_Md_text_128 (by rw [c16]; decide) (by rw [c16]; decide) (by rw [c16]; rfl) (by decide) ?_
    refine x_aload_n 0 d_Md_text_174 rfl rfl ?_
    obtain ⟨p17, e18, h⟩ := xbind h
    refine x_callV0v e_Md_266 sh_65 rfl (t_Md_goesOn V L _ e18) rfl rfl rfl (Nat.le_of_ble_eq_true rfl) (xfit_of (by omega) (Nat.le_of_ble_eq_true rfl)) (Nat.zero_le _) (Nat.zero_le _) d_Md_text_175 ?_
    refine x_goto 102 d_Md_text_178 (by decide) ?_
    exact hk102 p17 h
  replace h := xneg c16 h
  by_cases c19 : (V 65 25) = 3
  · replace h := xpos c19 h
    refine x_tableIn 53 181 d_Md_text_128 (by rw [c19]; decide) (by rw [c19]; decide) (by rw [c19]; rfl) (by decide) ?_
    refine x_aload_n 0 d_Md_text_181 rfl rfl ?_
    obtain ⟨p20, e21, h⟩ := xbind h
    refine x_callV0v e_Md_269 sh_65 rfl (t_Md_asksOn V L _ e21) rfl rfl rfl (Nat.le_of_ble_eq_true rfl) (xfit_of (by omega) (Nat.le_of_ble_eq_true rfl)) (Nat.zero_le _) (Nat.zero_le _) d_Md_text_182 ?_
    refine x_goto 102 d_Md_text_185 (by decide) ?_
    exact hk102 p20 h
  replace h := xneg c19 h
  refine x_tableOut 188 d_Md_text_128 (by have n0 := lv_neT c10 (a := 0) rfl; have n1 := lv_neT c13 (a := 1) rfl; have n2 := lv_neT c16 (a := 2) rfl; have n3 := lv_neT c19 (a := 3) rfl; omega) (by decide) ?_
  refine x_aload_n 0 d_Md_text_188 rfl rfl ?_
  obtain ⟨p22, e23, h⟩ := xbind h
  refine x_callV0v e_Md_272 sh_65 rfl (t_Md_clause V L _ e23) rfl rfl rfl (Nat.le_of_ble_eq_true rfl) (xfit_of (by omega) (Nat.le_of_ble_eq_true rfl)) (Nat.zero_le _) (Nat.zero_le _) d_Md_text_189 ?_
  refine x_goto 102 d_Md_text_192 (by decide) ?_
  exact hk102 p22 h
def b_Md_text_102 (k102 : xV → Option (Int32 × xV)) (V : xV) : Option (Int32 × xV) := (if ¬ (V 65 16) = 0 then b_Md_text_195 V else (if ¬ (V 65 25) = 4 then b_Md_text_124 k102 V else (if (V 65 14) = 0 then b_Md_text_195 V else b_Md_text_124 k102 V)))
theorem tb_Md_text_102 {L : xL} (k102 : xV → Option (Int32 × xV)) (res : Int32 × xV) (hk102 : ∀ (V : xV), k102 V = some res → X M_Md_text (xRm (6) M_Md_text) (xZ M_Md_text (fun o h' => o = some (.int res.1) ∧ h' = (SH, res.2, L))) SH V L 0 0 102 [(0, .ref 65)] []) (V : xV) (h : b_Md_text_102 k102 V = some res) : X M_Md_text (xRm (6) M_Md_text) (xZ M_Md_text (fun o h' => o = some (.int res.1) ∧ h' = (SH, res.2, L))) SH V L 0 0 102 [(0, .ref 65)] [] := by
  unfold b_Md_text_102 at h
  refine x_aload_n 0 d_Md_text_102 rfl rfl ?_
  refine x_getI f_Md_183 sh_65 rfl d_Md_text_103 ?_
  refine x_if_ne 195 d_Md_text_106 (by decide) (fun c7 => ?_) (fun c7 => ?_)
  · replace h := xpos c7 h
    exact tb_Md_text_195 (L := L) res V h
  · replace h := xneg c7 h
    refine x_aload_n 0 d_Md_text_109 rfl rfl ?_
    refine x_getI f_Md_227 sh_65 rfl d_Md_text_110 ?_
    refine x_iconst 4 d_Md_text_113 (by decide) ?_
    refine x_icmp_ne 124 d_Md_text_114 (by decide) (fun c8 => ?_) (fun c8 => ?_)
    · replace h := xpos c8 h
      exact tb_Md_text_124 (L := L) k102 res hk102 V h
    · replace h := xneg c8 h
      refine x_aload_n 0 d_Md_text_117 rfl rfl ?_
      refine x_getI f_Md_167 sh_65 rfl d_Md_text_118 ?_
      refine x_if_eq 195 d_Md_text_121 (by decide) (fun c9 => ?_) (fun c9 => ?_)
      · replace h := xpos c9 h
        exact tb_Md_text_195 (L := L) res V h
      · replace h := xneg c9 h
        exact tb_Md_text_124 (L := L) k102 res hk102 V h
def g_Md_text_102  : Nat → xV → Option (Int32 × xV)
  | 0, _ => none
  | n + 1, V => b_Md_text_102 (g_Md_text_102  n) V
theorem tg_Md_text_102 {L : xL} (res : Int32 × xV)  : ∀ (n : Nat) (V : xV), g_Md_text_102  n V = some res → X M_Md_text (xRm (6) M_Md_text) (xZ M_Md_text (fun o h' => o = some (.int res.1) ∧ h' = (SH, res.2, L))) SH V L 0 0 102 [(0, .ref 65)] []
  | 0, _, h => by cases h
  | n + 1, V, h => tb_Md_text_102 (L := L) (g_Md_text_102  n) res (tg_Md_text_102 (L := L) res n) V h
def b_Md_text_72 (k72 : Int32 → xV → Option (Int32 × xV)) (v1 : Int32) (V : xV) : Option (Int32 × xV) := (if 6 ≤ v1 then (Option.bind (f_Md_next V) fun p3 => g_Md_text_102 2000 p3) else (if xI v1 6 = true then (if xI v1 6 = true then k72 (v1 + 1) (x2 (x2 V 78 v1.toNatClampNeg (-1)) 79 v1.toNatClampNeg (-1)) else none) else none))
theorem tb_Md_text_72 {L : xL} (k72 : Int32 → xV → Option (Int32 × xV)) (res : Int32 × xV) (hk72 : ∀ (v1 : Int32) (V : xV), k72 v1 V = some res → X M_Md_text (xRm (6) M_Md_text) (xZ M_Md_text (fun o h' => o = some (.int res.1) ∧ h' = (SH, res.2, L))) SH V L 0 0 72 [(0, .ref 65), (1, .int v1)] []) (v1 : Int32) (V : xV) (h : b_Md_text_72 k72 v1 V = some res) : X M_Md_text (xRm (6) M_Md_text) (xZ M_Md_text (fun o h' => o = some (.int res.1) ∧ h' = (SH, res.2, L))) SH V L 0 0 72 [(0, .ref 65), (1, .int v1)] [] := by
  unfold b_Md_text_72 at h
  refine x_iload_n 1 d_Md_text_72 rfl rfl ?_
  refine x_bipush 6 d_Md_text_73 (by decide) ?_
  refine x_icmp_ge 98 d_Md_text_75 (by decide) (fun c2 => ?_) (fun c2 => ?_)
  · replace h := xpos c2 h
    refine x_aload_n 0 d_Md_text_98 rfl rfl ?_
    obtain ⟨p3, e4, h⟩ := xbind h
    refine x_callV0v e_Md_204 sh_65 rfl (t_Md_next V L _ e4) rfl rfl rfl (Nat.le_of_ble_eq_true rfl) (xfit_of (by omega) (Nat.le_of_ble_eq_true rfl)) (Nat.zero_le _) (Nat.zero_le _) d_Md_text_99 ?_
    refine x_pick [0] rfl ?_
    exact tg_Md_text_102 (L := L) res _ p3 h
  · replace h := xneg c2 h
    refine x_aload_n 0 d_Md_text_78 rfl rfl ?_
    refine x_getP (q := 78) f_Md_54 sh_65 rfl d_Md_text_79 ?_
    refine x_iload_n 1 d_Md_text_82 rfl rfl ?_
    refine x_iconst (-1) d_Md_text_83 (by decide) ?_
    obtain ⟨c5, h⟩ := xguard h
    refine x_iastore sh_78 c5 d_Md_text_84 ?_
    refine x_aload_n 0 d_Md_text_85 rfl rfl ?_
    refine x_getP (q := 79) f_Md_57 sh_65 rfl d_Md_text_86 ?_
    refine x_iload_n 1 d_Md_text_89 rfl rfl ?_
    refine x_iconst (-1) d_Md_text_90 (by decide) ?_
    obtain ⟨c6, h⟩ := xguard h
    refine x_iastore sh_79 c6 d_Md_text_91 ?_
    refine x_iinc 1 1 [(1, .int (v1 + 1)), (0, .ref 65)] d_Md_text_92 rfl (by decide) (Nat.le_of_ble_eq_true rfl) rfl ?_
    refine x_goto 72 d_Md_text_95 (by decide) ?_
    refine x_pick [1, 0] rfl ?_
    exact hk72 (v1 + 1) (x2 (x2 V 78 v1.toNatClampNeg (-1)) 79 v1.toNatClampNeg (-1)) h
def g_Md_text_72  : Nat → Int32 → xV → Option (Int32 × xV)
  | 0, _, _ => none
  | n + 1, v1, V => b_Md_text_72 (g_Md_text_72  n) v1 V
theorem tg_Md_text_72 {L : xL} (res : Int32 × xV)  : ∀ (n : Nat) (v1 : Int32) (V : xV), g_Md_text_72  n v1 V = some res → X M_Md_text (xRm (6) M_Md_text) (xZ M_Md_text (fun o h' => o = some (.int res.1) ∧ h' = (SH, res.2, L))) SH V L 0 0 72 [(0, .ref 65), (1, .int v1)] []
  | 0, _, _, h => by cases h
  | n + 1, v1, V, h => tb_Md_text_72 (L := L) (g_Md_text_72  n) res (tg_Md_text_72 (L := L) res n) v1 V h
def f_Md_text (V : xV) : Option (Int32 × xV) := (if ¬ (V 66 2) = 4 then g_Md_text_72 2000 0 (x2 (x2 (x2 (x2 (x2 (x2 (x2 (x2 (x2 (x2 (x2 V 65 11 (V 65 3)) 65 3 0) 65 12 0) 65 16 0) 65 17 (-1)) 65 18 0) 65 19 0) 65 22 0) 65 25 4) 65 26 0) 65 30 0) else some ((-1), V))
theorem t_Md_text  (V : xV) (L : xL) (res : Int32 × xV) (h : f_Md_text V = some res) : xRuns (6) M_Md_text [.ref 65] (SH, V, L) (fun o h' => o = some (.int res.1) ∧ h' = (SH, res.2, L)) := by
  refine xRuns_of (by decide) (Nat.le_of_ble_eq_true rfl) ?_
  unfold f_Md_text at h
  show X M_Md_text (xRm (6) M_Md_text) (xZ M_Md_text (fun o h' => o = some (.int res.1) ∧ h' = (SH, res.2, L))) SH V L 0 0 0 [(0, .ref 65)] []
  refine x_aload_n 0 d_Md_text_0 rfl rfl ?_
  refine x_getP (q := 66) f_Md_7 sh_65 rfl d_Md_text_1 ?_
  refine x_iconst 2 d_Md_text_4 (by decide) ?_
  refine x_ialoadC 2 sh_66 (by decide) (by decide) d_Md_text_5 ?_
  refine x_iconst 4 d_Md_text_6 (by decide) ?_
  refine x_icmp_ne 12 d_Md_text_7 (by decide) (fun c1 => ?_) (fun c1 => ?_)
  · replace h := xpos c1 h
    refine x_aload_n 0 d_Md_text_12 rfl rfl ?_
    refine x_aload_n 0 d_Md_text_13 rfl rfl ?_
    refine x_getI f_Md_107 sh_65 rfl d_Md_text_14 ?_
    refine x_putI f_Md_161 sh_65 rfl rfl rfl d_Md_text_17 ?_
    refine x_aload_n 0 d_Md_text_20 rfl rfl ?_
    refine x_iconst 0 d_Md_text_21 (by decide) ?_
    refine x_putI f_Md_107 sh_65 rfl rfl rfl d_Md_text_22 ?_
    refine x_aload_n 0 d_Md_text_25 rfl rfl ?_
    refine x_iconst 0 d_Md_text_26 (by decide) ?_
    refine x_putI f_Md_158 sh_65 rfl rfl rfl d_Md_text_27 ?_
    refine x_aload_n 0 d_Md_text_30 rfl rfl ?_
    refine x_iconst 0 d_Md_text_31 (by decide) ?_
    refine x_putI f_Md_183 sh_65 rfl rfl rfl d_Md_text_32 ?_
    refine x_aload_n 0 d_Md_text_35 rfl rfl ?_
    refine x_iconst (-1) d_Md_text_36 (by decide) ?_
    refine x_putI f_Md_186 sh_65 rfl rfl rfl d_Md_text_37 ?_
    refine x_aload_n 0 d_Md_text_40 rfl rfl ?_
    refine x_iconst 0 d_Md_text_41 (by decide) ?_
    refine x_putI f_Md_195 sh_65 rfl rfl rfl d_Md_text_42 ?_
    refine x_aload_n 0 d_Md_text_45 rfl rfl ?_
    refine x_iconst 0 d_Md_text_46 (by decide) ?_
    refine x_putI f_Md_192 sh_65 rfl rfl rfl d_Md_text_47 ?_
    refine x_aload_n 0 d_Md_text_50 rfl rfl ?_
    refine x_iconst 0 d_Md_text_51 (by decide) ?_
    refine x_putI f_Md_207 sh_65 rfl rfl rfl d_Md_text_52 ?_
    refine x_aload_n 0 d_Md_text_55 rfl rfl ?_
    refine x_iconst 4 d_Md_text_56 (by decide) ?_
    refine x_putI f_Md_227 sh_65 rfl rfl rfl d_Md_text_57 ?_
    refine x_aload_n 0 d_Md_text_60 rfl rfl ?_
    refine x_iconst 0 d_Md_text_61 (by decide) ?_
    refine x_putI f_Md_257 sh_65 rfl rfl rfl d_Md_text_62 ?_
    refine x_aload_n 0 d_Md_text_65 rfl rfl ?_
    refine x_iconst 0 d_Md_text_66 (by decide) ?_
    refine x_putI f_Md_189 sh_65 rfl rfl rfl d_Md_text_67 ?_
    refine x_iconst 0 d_Md_text_70 (by decide) ?_
    refine x_istore_n [(1, .int 0), (0, .ref 65)] d_Md_text_71 rfl (Nat.le_of_ble_eq_true rfl) rfl ?_
    refine x_pick [1, 0] rfl ?_
    exact tg_Md_text_72 (L := L) res _ 0 (x2 (x2 (x2 (x2 (x2 (x2 (x2 (x2 (x2 (x2 (x2 V 65 11 (V 65 3)) 65 3 0) 65 12 0) 65 16 0) 65 17 (-1)) 65 18 0) 65 19 0) 65 22 0) 65 25 4) 65 26 0) 65 30 0) h
  · replace h := xneg c1 h
    refine x_iconst (-1) d_Md_text_10 (by decide) ?_
    obtain rfl := Option.some.inj h
    exact x_ireturn rfl d_Md_text_11 (Nat.le_refl _) (Nat.le_refl _) ⟨rfl, rfl⟩
-- Md_fault
def f_Md_fault (a1 : Int32) (V : xV) : Int32 := (if ¬ a1 = 0 then (if ¬ a1 = 1 then (-1) else (V 65 5)) else (V 65 4))
theorem t_Md_fault (a1 : Int32) (V : xV) (L : xL) (res : Int32) (h : f_Md_fault a1 V = res) : xRuns (1) M_Md_fault [.ref 65, .int a1] (SH, V, L) (fun o h' => o = some (.int res) ∧ h' = (SH, V, L)) := by
  refine xRuns_of (by decide) (Nat.le_of_ble_eq_true rfl) ?_
  unfold f_Md_fault at h
  show X M_Md_fault (xRm (1) M_Md_fault) (xZ M_Md_fault (fun o h' => o = some (.int res) ∧ h' = (SH, V, L))) SH V L 0 0 0 [(0, .ref 65), (1, .int a1)] []
  refine x_iload_n 1 d_Md_fault_0 rfl rfl ?_
  refine x_if_ne 11 d_Md_fault_1 (by decide) (fun c1 => ?_) (fun c1 => ?_)
  · replace h := xpos c1 h
    refine x_iload_n 1 d_Md_fault_11 rfl rfl ?_
    refine x_iconst 1 d_Md_fault_12 (by decide) ?_
    refine x_icmp_ne 23 d_Md_fault_13 (by decide) (fun c2 => ?_) (fun c2 => ?_)
    · replace h := xpos c2 h
      refine x_iconst (-1) d_Md_fault_23 (by decide) ?_
      obtain rfl := h
      exact x_ireturn rfl d_Md_fault_24 (Nat.le_refl _) (Nat.le_refl _) ⟨rfl, rfl⟩
    · replace h := xneg c2 h
      refine x_aload_n 0 d_Md_fault_16 rfl rfl ?_
      refine x_getI f_Md_24 sh_65 rfl d_Md_fault_17 ?_
      refine x_goto 24 d_Md_fault_20 (by decide) ?_
      obtain rfl := h
      exact x_ireturn rfl d_Md_fault_24 (Nat.le_refl _) (Nat.le_refl _) ⟨rfl, rfl⟩
  · replace h := xneg c1 h
    refine x_aload_n 0 d_Md_fault_4 rfl rfl ?_
    refine x_getI f_Md_20 sh_65 rfl d_Md_fault_5 ?_
    refine x_goto 24 d_Md_fault_8 (by decide) ?_
    obtain rfl := h
    exact x_ireturn rfl d_Md_fault_24 (Nat.le_refl _) (Nat.le_refl _) ⟨rfl, rfl⟩
-- Md_by
def f_Md_by (a1 : Int32) (V : xV) : Int32 × xV := (if a1 = (-1) then (1, x2 V 66 3 a1) else (if ¬ (f_Md_in a1 0 ((V 66 2) - 1)) = 0 then (1, x2 V 66 3 a1) else (0, V)))
theorem t_Md_by (a1 : Int32) (V : xV) (L : xL) (res : Int32 × xV) (h : f_Md_by a1 V = res) : xRuns (2) M_Md_by [.ref 65, .int a1] (SH, V, L) (fun o h' => o = some (.int res.1) ∧ h' = (SH, res.2, L)) := by
  refine xRuns_of (by decide) (Nat.le_of_ble_eq_true rfl) ?_
  unfold f_Md_by at h
  show X M_Md_by (xRm (2) M_Md_by) (xZ M_Md_by (fun o h' => o = some (.int res.1) ∧ h' = (SH, res.2, L))) SH V L 0 0 0 [(0, .ref 65), (1, .int a1)] []
  refine x_iload_n 1 d_Md_by_0 rfl rfl ?_
  refine x_iconst (-1) d_Md_by_1 (by decide) ?_
  refine x_icmp_eq 23 d_Md_by_2 (by decide) (fun c1 => ?_) (fun c1 => ?_)
  · replace h := xpos c1 h
    refine x_aload_n 0 d_Md_by_23 rfl rfl ?_
    refine x_getP (q := 66) f_Md_7 sh_65 rfl d_Md_by_24 ?_
    refine x_iconst 3 d_Md_by_27 (by decide) ?_
    refine x_iload_n 1 d_Md_by_28 rfl rfl ?_
    refine x_iastoreC 3 sh_66 (by decide) (by decide) d_Md_by_29 ?_
    refine x_iconst 1 d_Md_by_30 (by decide) ?_
    obtain rfl := h
    exact x_zreturn rfl rfl d_Md_by_31 (Nat.le_refl _) (Nat.le_refl _) ⟨rfl, rfl⟩
  · replace h := xneg c1 h
    refine x_iload_n 1 d_Md_by_5 rfl rfl ?_
    refine x_iconst 0 d_Md_by_6 (by decide) ?_
    refine x_aload_n 0 d_Md_by_7 rfl rfl ?_
    refine x_getP (q := 66) f_Md_7 sh_65 rfl d_Md_by_8 ?_
    refine x_iconst 2 d_Md_by_11 (by decide) ?_
    refine x_ialoadC 2 sh_66 (by decide) (by decide) d_Md_by_12 ?_
    refine x_iconst 1 d_Md_by_13 (by decide) ?_
    refine x_isub d_Md_by_14 ?_
    refine x_callS0 e_Md_89 (t_Md_in a1 0 ((V 66 2) - 1) V L _ rfl) rfl rfl rfl (Nat.le_of_ble_eq_true rfl) (xfit_of (by omega) (Nat.le_of_ble_eq_true rfl)) (Nat.zero_le _) (Nat.zero_le _) d_Md_by_15 ?_
    refine x_if_ne 23 d_Md_by_18 (by decide) (fun c3 => ?_) (fun c3 => ?_)
    · replace h := xpos c3 h
      refine x_aload_n 0 d_Md_by_23 rfl rfl ?_
      refine x_getP (q := 66) f_Md_7 sh_65 rfl d_Md_by_24 ?_
      refine x_iconst 3 d_Md_by_27 (by decide) ?_
      refine x_iload_n 1 d_Md_by_28 rfl rfl ?_
      refine x_iastoreC 3 sh_66 (by decide) (by decide) d_Md_by_29 ?_
      refine x_iconst 1 d_Md_by_30 (by decide) ?_
      obtain rfl := h
      exact x_zreturn rfl rfl d_Md_by_31 (Nat.le_refl _) (Nat.le_refl _) ⟨rfl, rfl⟩
    · replace h := xneg c3 h
      refine x_iconst 0 d_Md_by_21 (by decide) ?_
      obtain rfl := h
      exact x_zreturn rfl rfl d_Md_by_22 (Nat.le_refl _) (Nat.le_refl _) ⟨rfl, rfl⟩
-- Md_hasClause
def f_Md_hasClause (a1 : Int32) (V : xV) : Option (Int32) := (if (V 66 3) = (-1) then some 0 else (if a1 = (V 65 35) then some 0 else (if xI ((6 * (V 66 3)) + a1) 24 = true then (if (V 70 ((6 * (V 66 3)) + a1).toNatClampNeg) = (-1) then some 0 else some 1) else none)))
theorem t_Md_hasClause (a1 : Int32) (V : xV) (L : xL) (res : Int32) (h : f_Md_hasClause a1 V = some res) : xRuns (1) M_Md_hasClause [.ref 65, .int a1] (SH, V, L) (fun o h' => o = some (.int res) ∧ h' = (SH, V, L)) := by
  refine xRuns_of (by decide) (Nat.le_of_ble_eq_true rfl) ?_
  unfold f_Md_hasClause at h
  show X M_Md_hasClause (xRm (1) M_Md_hasClause) (xZ M_Md_hasClause (fun o h' => o = some (.int res) ∧ h' = (SH, V, L))) SH V L 0 0 0 [(0, .ref 65), (1, .int a1)] []
  refine x_aload_n 0 d_Md_hasClause_0 rfl rfl ?_
  refine x_getP (q := 66) f_Md_7 sh_65 rfl d_Md_hasClause_1 ?_
  refine x_iconst 3 d_Md_hasClause_4 (by decide) ?_
  refine x_ialoadC 3 sh_66 (by decide) (by decide) d_Md_hasClause_5 ?_
  refine x_iconst (-1) d_Md_hasClause_6 (by decide) ?_
  refine x_icmp_eq 42 d_Md_hasClause_7 (by decide) (fun c1 => ?_) (fun c1 => ?_)
  · replace h := xpos c1 h
    refine x_iconst 0 d_Md_hasClause_42 (by decide) ?_
    obtain rfl := Option.some.inj h
    exact x_zreturn rfl rfl d_Md_hasClause_43 (Nat.le_refl _) (Nat.le_refl _) ⟨rfl, rfl⟩
  · replace h := xneg c1 h
    refine x_iload_n 1 d_Md_hasClause_10 rfl rfl ?_
    refine x_aload_n 0 d_Md_hasClause_11 rfl rfl ?_
    refine x_getI f_Md_73 sh_65 rfl d_Md_hasClause_12 ?_
    refine x_icmp_eq 42 d_Md_hasClause_15 (by decide) (fun c2 => ?_) (fun c2 => ?_)
    · replace h := xpos c2 h
      refine x_iconst 0 d_Md_hasClause_42 (by decide) ?_
      obtain rfl := Option.some.inj h
      exact x_zreturn rfl rfl d_Md_hasClause_43 (Nat.le_refl _) (Nat.le_refl _) ⟨rfl, rfl⟩
    · replace h := xneg c2 h
      refine x_aload_n 0 d_Md_hasClause_18 rfl rfl ?_
      refine x_getP (q := 70) f_Md_30 sh_65 rfl d_Md_hasClause_19 ?_
      refine x_bipush 6 d_Md_hasClause_22 (by decide) ?_
      refine x_aload_n 0 d_Md_hasClause_24 rfl rfl ?_
      refine x_getP (q := 66) f_Md_7 sh_65 rfl d_Md_hasClause_25 ?_
      refine x_iconst 3 d_Md_hasClause_28 (by decide) ?_
      refine x_ialoadC 3 sh_66 (by decide) (by decide) d_Md_hasClause_29 ?_
      refine x_imul d_Md_hasClause_30 ?_
      refine x_iload_n 1 d_Md_hasClause_31 rfl rfl ?_
      refine x_iadd d_Md_hasClause_32 ?_
      obtain ⟨c3, h⟩ := xguard h
      refine x_iaload sh_70 c3 d_Md_hasClause_33 ?_
      refine x_iconst (-1) d_Md_hasClause_34 (by decide) ?_
      refine x_icmp_eq 42 d_Md_hasClause_35 (by decide) (fun c4 => ?_) (fun c4 => ?_)
      · replace h := xpos c4 h
        refine x_iconst 0 d_Md_hasClause_42 (by decide) ?_
        obtain rfl := Option.some.inj h
        exact x_zreturn rfl rfl d_Md_hasClause_43 (Nat.le_refl _) (Nat.le_refl _) ⟨rfl, rfl⟩
      · replace h := xneg c4 h
        refine x_iconst 1 d_Md_hasClause_38 (by decide) ?_
        refine x_goto 43 d_Md_hasClause_39 (by decide) ?_
        obtain rfl := Option.some.inj h
        exact x_zreturn rfl rfl d_Md_hasClause_43 (Nat.le_refl _) (Nat.le_refl _) ⟨rfl, rfl⟩
-- Md_decreeOf
def f_Md_decreeOf (a1 : Int32) (a2 : Int32) (V : xV) : Option (Int32) := (if xI ((40 + (4 * a1)) + a2) 270 = true then some (V 66 ((40 + (4 * a1)) + a2).toNatClampNeg) else none)
theorem t_Md_decreeOf (a1 : Int32) (a2 : Int32) (V : xV) (L : xL) (res : Int32) (h : f_Md_decreeOf a1 a2 V = some res) : xRuns (1) M_Md_decreeOf [.ref 65, .int a1, .int a2] (SH, V, L) (fun o h' => o = some (.int res) ∧ h' = (SH, V, L)) := by
  refine xRuns_of (by decide) (Nat.le_of_ble_eq_true rfl) ?_
  unfold f_Md_decreeOf at h
  show X M_Md_decreeOf (xRm (1) M_Md_decreeOf) (xZ M_Md_decreeOf (fun o h' => o = some (.int res) ∧ h' = (SH, V, L))) SH V L 0 0 0 [(0, .ref 65), (1, .int a1), (2, .int a2)] []
  refine x_aload_n 0 d_Md_decreeOf_0 rfl rfl ?_
  refine x_getP (q := 66) f_Md_7 sh_65 rfl d_Md_decreeOf_1 ?_
  refine x_bipush 40 d_Md_decreeOf_4 (by decide) ?_
  refine x_iconst 4 d_Md_decreeOf_6 (by decide) ?_
  refine x_iload_n 1 d_Md_decreeOf_7 rfl rfl ?_
  refine x_imul d_Md_decreeOf_8 ?_
  refine x_iadd d_Md_decreeOf_9 ?_
  refine x_iload_n 2 d_Md_decreeOf_10 rfl rfl ?_
  refine x_iadd d_Md_decreeOf_11 ?_
  obtain ⟨c1, h⟩ := xguard h
  refine x_iaload sh_66 c1 d_Md_decreeOf_12 ?_
  obtain rfl := Option.some.inj h
  exact x_ireturn rfl d_Md_decreeOf_13 (Nat.le_refl _) (Nat.le_refl _) ⟨rfl, rfl⟩
-- Md_warrantNames
def b_Md_warrantNames_60 (v1 : Int32) (s0 : Int32) (s1 : Int32) (V : xV) : Option (xV) := (if xI s1 13 = true then (if xI (10 + v1) 270 = true then some (x2 (x2 V 82 s1.toNatClampNeg s0) 82 4 ((x2 V 82 s1.toNatClampNeg s0) 66 (10 + v1).toNatClampNeg)) else none) else none)
theorem tb_Md_warrantNames_60 {L : xL} (res : xV)  (v1 : Int32) (s0 : Int32) (s1 : Int32) (V : xV) (h : b_Md_warrantNames_60 v1 s0 s1 V = some res) : X M_Md_warrantNames (xRm (2) M_Md_warrantNames) (xZ M_Md_warrantNames (fun o h' => o = none ∧ h' = (SH, res, L))) SH V L 0 0 60 [(0, .ref 65), (1, .int v1)] [.int s0, .int s1, .ref 82] := by
  unfold b_Md_warrantNames_60 at h
  obtain ⟨c7, h⟩ := xguard h
  refine x_iastore sh_82 c7 d_Md_warrantNames_60 ?_
  refine x_aload_n 0 d_Md_warrantNames_61 rfl rfl ?_
  refine x_getP (q := 82) f_Md_66 sh_65 rfl d_Md_warrantNames_62 ?_
  refine x_iconst 4 d_Md_warrantNames_65 (by decide) ?_
  refine x_aload_n 0 d_Md_warrantNames_66 rfl rfl ?_
  refine x_getP (q := 66) f_Md_7 sh_65 rfl d_Md_warrantNames_67 ?_
  refine x_bipush 10 d_Md_warrantNames_70 (by decide) ?_
  refine x_iload_n 1 d_Md_warrantNames_72 rfl rfl ?_
  refine x_iadd d_Md_warrantNames_73 ?_
  obtain ⟨c8, h⟩ := xguard h
  refine x_iaload sh_66 c8 d_Md_warrantNames_74 ?_
  refine x_iastoreC 4 sh_82 (by decide) (by decide) d_Md_warrantNames_75 ?_
  obtain rfl := Option.some.inj h
  exact x_return rfl d_Md_warrantNames_76 (Nat.le_refl _) (Nat.le_refl _) ⟨rfl, rfl⟩
def b_Md_warrantNames_35 (v1 : Int32) (s0 : Int32) (s1 : Int32) (V : xV) : Option (xV) := (if xI s1 13 = true then (if ¬ v1 = 0 then (if xI ((10 + v1) - 1) 270 = true then b_Md_warrantNames_60 v1 ((x2 V 82 s1.toNatClampNeg s0) 66 ((10 + v1) - 1).toNatClampNeg) 3 (x2 V 82 s1.toNatClampNeg s0) else none) else b_Md_warrantNames_60 v1 0 3 (x2 V 82 s1.toNatClampNeg s0)) else none)
theorem tb_Md_warrantNames_35 {L : xL} (res : xV)  (v1 : Int32) (s0 : Int32) (s1 : Int32) (V : xV) (h : b_Md_warrantNames_35 v1 s0 s1 V = some res) : X M_Md_warrantNames (xRm (2) M_Md_warrantNames) (xZ M_Md_warrantNames (fun o h' => o = none ∧ h' = (SH, res, L))) SH V L 0 0 35 [(0, .ref 65), (1, .int v1)] [.int s0, .int s1, .ref 82] := by
  unfold b_Md_warrantNames_35 at h
  obtain ⟨c4, h⟩ := xguard h
  refine x_iastore sh_82 c4 d_Md_warrantNames_35 ?_
  refine x_aload_n 0 d_Md_warrantNames_36 rfl rfl ?_
  refine x_getP (q := 82) f_Md_66 sh_65 rfl d_Md_warrantNames_37 ?_
  refine x_iconst 3 d_Md_warrantNames_40 (by decide) ?_
  refine x_iload_n 1 d_Md_warrantNames_41 rfl rfl ?_
  refine x_if_ne 49 d_Md_warrantNames_42 (by decide) (fun c5 => ?_) (fun c5 => ?_)
  · replace h := xpos c5 h
    refine x_aload_n 0 d_Md_warrantNames_49 rfl rfl ?_
    refine x_getP (q := 66) f_Md_7 sh_65 rfl d_Md_warrantNames_50 ?_
    refine x_bipush 10 d_Md_warrantNames_53 (by decide) ?_
    refine x_iload_n 1 d_Md_warrantNames_55 rfl rfl ?_
    refine x_iadd d_Md_warrantNames_56 ?_
    refine x_iconst 1 d_Md_warrantNames_57 (by decide) ?_
    refine x_isub d_Md_warrantNames_58 ?_
    obtain ⟨c6, h⟩ := xguard h
    refine x_iaload sh_66 c6 d_Md_warrantNames_59 ?_
    exact tb_Md_warrantNames_60 (L := L) res v1 ((x2 V 82 s1.toNatClampNeg s0) 66 ((10 + v1) - 1).toNatClampNeg) 3 (x2 V 82 s1.toNatClampNeg s0) h
  · replace h := xneg c5 h
    refine x_iconst 0 d_Md_warrantNames_45 (by decide) ?_
    refine x_goto 60 d_Md_warrantNames_46 (by decide) ?_
    exact tb_Md_warrantNames_60 (L := L) res v1 0 3 (x2 V 82 s1.toNatClampNeg s0) h
def f_Md_warrantNames (a1 : Int32) (a2 : Int32) (V : xV) : Option (xV) := (if ¬ a1 = 0 then (Option.bind (f_Md_decreeOf (a1 - 1) a2 (x2 (x2 V 82 0 a1) 82 1 a2)) fun p2 => b_Md_warrantNames_35 a1 p2 2 (x2 (x2 V 82 0 a1) 82 1 a2)) else b_Md_warrantNames_35 a1 0 2 (x2 (x2 V 82 0 a1) 82 1 a2))
theorem t_Md_warrantNames (a1 : Int32) (a2 : Int32) (V : xV) (L : xL) (res : xV) (h : f_Md_warrantNames a1 a2 V = some res) : xRuns (2) M_Md_warrantNames [.ref 65, .int a1, .int a2] (SH, V, L) (fun o h' => o = none ∧ h' = (SH, res, L)) := by
  refine xRuns_of (by decide) (Nat.le_of_ble_eq_true rfl) ?_
  unfold f_Md_warrantNames at h
  show X M_Md_warrantNames (xRm (2) M_Md_warrantNames) (xZ M_Md_warrantNames (fun o h' => o = none ∧ h' = (SH, res, L))) SH V L 0 0 0 [(0, .ref 65), (1, .int a1), (2, .int a2)] []
  refine x_aload_n 0 d_Md_warrantNames_0 rfl rfl ?_
  refine x_getP (q := 82) f_Md_66 sh_65 rfl d_Md_warrantNames_1 ?_
  refine x_iconst 0 d_Md_warrantNames_4 (by decide) ?_
  refine x_iload_n 1 d_Md_warrantNames_5 rfl rfl ?_
  refine x_iastoreC 0 sh_82 (by decide) (by decide) d_Md_warrantNames_6 ?_
  refine x_aload_n 0 d_Md_warrantNames_7 rfl rfl ?_
  refine x_getP (q := 82) f_Md_66 sh_65 rfl d_Md_warrantNames_8 ?_
  refine x_iconst 1 d_Md_warrantNames_11 (by decide) ?_
  refine x_iload_n 2 d_Md_warrantNames_12 rfl rfl ?_
  refine x_iastoreC 1 sh_82 (by decide) (by decide) d_Md_warrantNames_13 ?_
  refine x_aload_n 0 d_Md_warrantNames_14 rfl rfl ?_
  refine x_getP (q := 82) f_Md_66 sh_65 rfl d_Md_warrantNames_15 ?_
  refine x_iconst 2 d_Md_warrantNames_18 (by decide) ?_
  refine x_iload_n 1 d_Md_warrantNames_19 rfl rfl ?_
  refine x_if_ne 27 d_Md_warrantNames_20 (by decide) (fun c1 => ?_) (fun c1 => ?_)
  · replace h := xpos c1 h
    refine x_aload_n 0 d_Md_warrantNames_27 rfl rfl ?_
    refine x_iload_n 1 d_Md_warrantNames_28 rfl rfl ?_
    refine x_iconst 1 d_Md_warrantNames_29 (by decide) ?_
    refine x_isub d_Md_warrantNames_30 ?_
    refine x_iload_n 2 d_Md_warrantNames_31 rfl rfl ?_
    obtain ⟨p2, e3, h⟩ := xbind h
    refine x_callV0 e_Md_291 sh_65 rfl (t_Md_decreeOf (a1 - 1) a2 (x2 (x2 V 82 0 a1) 82 1 a2) L _ e3) rfl rfl rfl (Nat.le_of_ble_eq_true rfl) (xfit_of (by omega) (Nat.le_of_ble_eq_true rfl)) (Nat.zero_le _) (Nat.zero_le _) d_Md_warrantNames_32 ?_
    refine x_pick [0, 1] rfl ?_
    exact tb_Md_warrantNames_35 (L := L) res a1 p2 2 (x2 (x2 V 82 0 a1) 82 1 a2) h
  · replace h := xneg c1 h
    refine x_iconst 0 d_Md_warrantNames_23 (by decide) ?_
    refine x_goto 35 d_Md_warrantNames_24 (by decide) ?_
    refine x_pick [0, 1] rfl ?_
    exact tb_Md_warrantNames_35 (L := L) res a1 0 2 (x2 (x2 V 82 0 a1) 82 1 a2) h
-- Md_bound
def f_Md_bound (a0 : Int64) : Int64 := (if (lg_cmp a0 1000000) ≤ 0 then (if 0 ≤ (lg_cmp a0 (-1000000)) then a0 else (-1000000)) else 1000000)
theorem t_Md_bound (a0 : Int64) (V : xV) (L : xL) (res : Int64) (h : f_Md_bound a0 = res) : xRuns (1) M_Md_bound [.long a0] (SH, V, L) (fun o h' => o = some (.long res) ∧ h' = (SH, V, L)) := by
  refine xRuns_of (by decide) (Nat.le_of_ble_eq_true rfl) ?_
  unfold f_Md_bound at h
  show X M_Md_bound (xRm (1) M_Md_bound) (xZ M_Md_bound (fun o h' => o = some (.long res) ∧ h' = (SH, V, L))) SH V L 0 0 0 [(0, .long a0)] []
  refine x_lload_n 0 d_Md_bound_0 rfl rfl ?_
  refine x_ldc2 c_Md_275 d_Md_bound_1 ?_
  refine x_lcmp d_Md_bound_4 ?_
  refine x_if_le 14 d_Md_bound_5 (by decide) (fun c1 => ?_) (fun c1 => ?_)
  · replace h := xpos c1 h
    refine x_lload_n 0 d_Md_bound_14 rfl rfl ?_
    refine x_ldc2 c_Md_277 d_Md_bound_15 ?_
    refine x_lcmp d_Md_bound_18 ?_
    refine x_if_ge 28 d_Md_bound_19 (by decide) (fun c2 => ?_) (fun c2 => ?_)
    · replace h := xpos c2 h
      refine x_lload_n 0 d_Md_bound_28 rfl rfl ?_
      obtain rfl := h
      exact x_lreturn rfl d_Md_bound_29 (Nat.le_refl _) (Nat.le_refl _) ⟨rfl, rfl⟩
    · replace h := xneg c2 h
      refine x_ldc2 c_Md_277 d_Md_bound_22 ?_
      refine x_goto 29 d_Md_bound_25 (by decide) ?_
      obtain rfl := h
      exact x_lreturn rfl d_Md_bound_29 (Nat.le_refl _) (Nat.le_refl _) ⟨rfl, rfl⟩
  · replace h := xneg c1 h
    refine x_ldc2 c_Md_275 d_Md_bound_8 ?_
    refine x_goto 29 d_Md_bound_11 (by decide) ?_
    obtain rfl := h
    exact x_lreturn rfl d_Md_bound_29 (Nat.le_refl _) (Nat.le_refl _) ⟨rfl, rfl⟩
-- Md_worked
def f_Md_worked (a0 : Int32) (a1 : Int64) (a3 : Int64) : Option (Int64) := (if a0 = 35 then (if (lg_cmp a1 a3) = 0 then some 0 else some 1) else (if a0 = 42 then some (f_Md_bound (a1 * a3)) else (if a0 = 43 then some (f_Md_bound (a1 + a3)) else (if a0 = 45 then some (f_Md_bound (a1 - a3)) else (if a0 = 47 then (if ¬ (lg_cmp a3 0) = 0 then (if ¬ a3 = 0 then some (a1 / a3) else none) else some 0) else (if a0 = 60 then (if 0 ≤ (lg_cmp a1 a3) then some 0 else some 1) else (if a0 = 61 then (if ¬ (lg_cmp a1 a3) = 0 then some 0 else some 1) else (if a0 = 62 then (if (lg_cmp a1 a3) ≤ 0 then some 0 else some 1) else (if a0 = 300 then (if 0 < (lg_cmp a1 a3) then some 0 else some 1) else (if a0 = 301 then (if (lg_cmp a1 a3) < 0 then some 0 else some 1) else (if a0 = 406 then some (a1 * a3) else (if (lg_cmp (a1 + a3) 0) ≤ 0 then some 0 else some 1))))))))))))
theorem t_Md_worked (a0 : Int32) (a1 : Int64) (a3 : Int64) (V : xV) (L : xL) (res : Int64) (h : f_Md_worked a0 a1 a3 = some res) : xRuns (2) M_Md_worked [.int a0, .long a1, .long a3] (SH, V, L) (fun o h' => o = some (.long res) ∧ h' = (SH, V, L)) := by
  refine xRuns_of (by decide) (Nat.le_of_ble_eq_true rfl) ?_
  unfold f_Md_worked at h
  show X M_Md_worked (xRm (2) M_Md_worked) (xZ M_Md_worked (fun o h' => o = some (.long res) ∧ h' = (SH, V, L))) SH V L 0 0 0 [(0, .int a0), (1, .long a1), (3, .long a3)] []
  refine x_iload_n 0 d_Md_worked_0 rfl rfl ?_
  by_cases c1 : a0 = 35
  · replace h := xpos c1 h
    refine x_lookup 170 171 d_Md_worked_1 (by decide) (by rw [c1]; decide) (by decide) ?_
    refine x_lload_n 1 d_Md_worked_171 rfl rfl ?_
    refine x_lload_n 2 d_Md_worked_172 rfl rfl ?_
    refine x_lcmp d_Md_worked_173 ?_
    refine x_if_eq 181 d_Md_worked_174 (by decide) (fun c2 => ?_) (fun c2 => ?_)
    · replace h := xpos c2 h
      refine x_lconst 0 d_Md_worked_181 (by decide) ?_
      obtain rfl := Option.some.inj h
      exact x_lreturn rfl d_Md_worked_182 (Nat.le_refl _) (Nat.le_refl _) ⟨rfl, rfl⟩
    · replace h := xneg c2 h
      refine x_lconst 1 d_Md_worked_177 (by decide) ?_
      refine x_goto 182 d_Md_worked_178 (by decide) ?_
      obtain rfl := Option.some.inj h
      exact x_lreturn rfl d_Md_worked_182 (Nat.le_refl _) (Nat.le_refl _) ⟨rfl, rfl⟩
  replace h := xneg c1 h
  by_cases c3 : a0 = 42
  · replace h := xpos c3 h
    refine x_lookup 113 114 d_Md_worked_1 (by decide) (by rw [c3]; decide) (by decide) ?_
    refine x_lload_n 1 d_Md_worked_114 rfl rfl ?_
    refine x_lload_n 2 d_Md_worked_115 rfl rfl ?_
    refine x_lmul d_Md_worked_116 ?_
    refine x_callS0 e_Md_279 (t_Md_bound (a1 * a3) V L _ rfl) rfl rfl rfl (Nat.le_of_ble_eq_true rfl) (xfit_of (by omega) (Nat.le_of_ble_eq_true rfl)) (Nat.zero_le _) (Nat.zero_le _) d_Md_worked_117 ?_
    obtain rfl := Option.some.inj h
    exact x_lreturn rfl d_Md_worked_120 (Nat.le_refl _) (Nat.le_refl _) ⟨rfl, rfl⟩
  replace h := xneg c3 h
  by_cases c5 : a0 = 43
  · replace h := xpos c5 h
    refine x_lookup 99 100 d_Md_worked_1 (by decide) (by rw [c5]; decide) (by decide) ?_
    refine x_lload_n 1 d_Md_worked_100 rfl rfl ?_
    refine x_lload_n 2 d_Md_worked_101 rfl rfl ?_
    refine x_ladd d_Md_worked_102 ?_
    refine x_callS0 e_Md_279 (t_Md_bound (a1 + a3) V L _ rfl) rfl rfl rfl (Nat.le_of_ble_eq_true rfl) (xfit_of (by omega) (Nat.le_of_ble_eq_true rfl)) (Nat.zero_le _) (Nat.zero_le _) d_Md_worked_103 ?_
    obtain rfl := Option.some.inj h
    exact x_lreturn rfl d_Md_worked_106 (Nat.le_refl _) (Nat.le_refl _) ⟨rfl, rfl⟩
  replace h := xneg c5 h
  by_cases c7 : a0 = 45
  · replace h := xpos c7 h
    refine x_lookup 106 107 d_Md_worked_1 (by decide) (by rw [c7]; decide) (by decide) ?_
    refine x_lload_n 1 d_Md_worked_107 rfl rfl ?_
    refine x_lload_n 2 d_Md_worked_108 rfl rfl ?_
    refine x_lsub d_Md_worked_109 ?_
    refine x_callS0 e_Md_279 (t_Md_bound (a1 - a3) V L _ rfl) rfl rfl rfl (Nat.le_of_ble_eq_true rfl) (xfit_of (by omega) (Nat.le_of_ble_eq_true rfl)) (Nat.zero_le _) (Nat.zero_le _) d_Md_worked_110 ?_
    obtain rfl := Option.some.inj h
    exact x_lreturn rfl d_Md_worked_113 (Nat.le_refl _) (Nat.le_refl _) ⟨rfl, rfl⟩
  replace h := xneg c7 h
  by_cases c9 : a0 = 47
  · replace h := xpos c9 h
    refine x_lookup 120 121 d_Md_worked_1 (by decide) (by rw [c9]; decide) (by decide) ?_
    refine x_lload_n 2 d_Md_worked_121 rfl rfl ?_
    refine x_lconst 0 d_Md_worked_122 (by decide) ?_
    refine x_lcmp d_Md_worked_123 ?_
    refine x_if_ne 131 d_Md_worked_124 (by decide) (fun c10 => ?_) (fun c10 => ?_)
    · replace h := xpos c10 h
      refine x_lload_n 1 d_Md_worked_131 rfl rfl ?_
      refine x_lload_n 2 d_Md_worked_132 rfl rfl ?_
      obtain ⟨c11, h⟩ := xguard h
      refine x_ldiv d_Md_worked_133 c11 ?_
      obtain rfl := Option.some.inj h
      exact x_lreturn rfl d_Md_worked_134 (Nat.le_refl _) (Nat.le_refl _) ⟨rfl, rfl⟩
    · replace h := xneg c10 h
      refine x_lconst 0 d_Md_worked_127 (by decide) ?_
      refine x_goto 134 d_Md_worked_128 (by decide) ?_
      obtain rfl := Option.some.inj h
      exact x_lreturn rfl d_Md_worked_134 (Nat.le_refl _) (Nat.le_refl _) ⟨rfl, rfl⟩
  replace h := xneg c9 h
  by_cases c12 : a0 = 60
  · replace h := xpos c12 h
    refine x_lookup 134 135 d_Md_worked_1 (by decide) (by rw [c12]; decide) (by decide) ?_
    refine x_lload_n 1 d_Md_worked_135 rfl rfl ?_
    refine x_lload_n 2 d_Md_worked_136 rfl rfl ?_
    refine x_lcmp d_Md_worked_137 ?_
    refine x_if_ge 145 d_Md_worked_138 (by decide) (fun c13 => ?_) (fun c13 => ?_)
    · replace h := xpos c13 h
      refine x_lconst 0 d_Md_worked_145 (by decide) ?_
      obtain rfl := Option.some.inj h
      exact x_lreturn rfl d_Md_worked_146 (Nat.le_refl _) (Nat.le_refl _) ⟨rfl, rfl⟩
    · replace h := xneg c13 h
      refine x_lconst 1 d_Md_worked_141 (by decide) ?_
      refine x_goto 146 d_Md_worked_142 (by decide) ?_
      obtain rfl := Option.some.inj h
      exact x_lreturn rfl d_Md_worked_146 (Nat.le_refl _) (Nat.le_refl _) ⟨rfl, rfl⟩
  replace h := xneg c12 h
  by_cases c14 : a0 = 61
  · replace h := xpos c14 h
    refine x_lookup 158 159 d_Md_worked_1 (by decide) (by rw [c14]; decide) (by decide) ?_
    refine x_lload_n 1 d_Md_worked_159 rfl rfl ?_
    refine x_lload_n 2 d_Md_worked_160 rfl rfl ?_
    refine x_lcmp d_Md_worked_161 ?_
    refine x_if_ne 169 d_Md_worked_162 (by decide) (fun c15 => ?_) (fun c15 => ?_)
    · replace h := xpos c15 h
      refine x_lconst 0 d_Md_worked_169 (by decide) ?_
      obtain rfl := Option.some.inj h
      exact x_lreturn rfl d_Md_worked_170 (Nat.le_refl _) (Nat.le_refl _) ⟨rfl, rfl⟩
    · replace h := xneg c15 h
      refine x_lconst 1 d_Md_worked_165 (by decide) ?_
      refine x_goto 170 d_Md_worked_166 (by decide) ?_
      obtain rfl := Option.some.inj h
      exact x_lreturn rfl d_Md_worked_170 (Nat.le_refl _) (Nat.le_refl _) ⟨rfl, rfl⟩
  replace h := xneg c14 h
  by_cases c16 : a0 = 62
  · replace h := xpos c16 h
    refine x_lookup 146 147 d_Md_worked_1 (by decide) (by rw [c16]; decide) (by decide) ?_
    refine x_lload_n 1 d_Md_worked_147 rfl rfl ?_
    refine x_lload_n 2 d_Md_worked_148 rfl rfl ?_
    refine x_lcmp d_Md_worked_149 ?_
    refine x_if_le 157 d_Md_worked_150 (by decide) (fun c17 => ?_) (fun c17 => ?_)
    · replace h := xpos c17 h
      refine x_lconst 0 d_Md_worked_157 (by decide) ?_
      obtain rfl := Option.some.inj h
      exact x_lreturn rfl d_Md_worked_158 (Nat.le_refl _) (Nat.le_refl _) ⟨rfl, rfl⟩
    · replace h := xneg c17 h
      refine x_lconst 1 d_Md_worked_153 (by decide) ?_
      refine x_goto 158 d_Md_worked_154 (by decide) ?_
      obtain rfl := Option.some.inj h
      exact x_lreturn rfl d_Md_worked_158 (Nat.le_refl _) (Nat.le_refl _) ⟨rfl, rfl⟩
  replace h := xneg c16 h
  by_cases c18 : a0 = 300
  · replace h := xpos c18 h
    refine x_lookup 182 183 d_Md_worked_1 (by decide) (by rw [c18]; decide) (by decide) ?_
    refine x_lload_n 1 d_Md_worked_183 rfl rfl ?_
    refine x_lload_n 2 d_Md_worked_184 rfl rfl ?_
    refine x_lcmp d_Md_worked_185 ?_
    refine x_if_gt 193 d_Md_worked_186 (by decide) (fun c19 => ?_) (fun c19 => ?_)
    · replace h := xpos c19 h
      refine x_lconst 0 d_Md_worked_193 (by decide) ?_
      obtain rfl := Option.some.inj h
      exact x_lreturn rfl d_Md_worked_194 (Nat.le_refl _) (Nat.le_refl _) ⟨rfl, rfl⟩
    · replace h := xneg c19 h
      refine x_lconst 1 d_Md_worked_189 (by decide) ?_
      refine x_goto 194 d_Md_worked_190 (by decide) ?_
      obtain rfl := Option.some.inj h
      exact x_lreturn rfl d_Md_worked_194 (Nat.le_refl _) (Nat.le_refl _) ⟨rfl, rfl⟩
  replace h := xneg c18 h
  by_cases c20 : a0 = 301
  · replace h := xpos c20 h
    refine x_lookup 194 195 d_Md_worked_1 (by decide) (by rw [c20]; decide) (by decide) ?_
    refine x_lload_n 1 d_Md_worked_195 rfl rfl ?_
    refine x_lload_n 2 d_Md_worked_196 rfl rfl ?_
    refine x_lcmp d_Md_worked_197 ?_
    refine x_if_lt 205 d_Md_worked_198 (by decide) (fun c21 => ?_) (fun c21 => ?_)
    · replace h := xpos c21 h
      refine x_lconst 0 d_Md_worked_205 (by decide) ?_
      obtain rfl := Option.some.inj h
      exact x_lreturn rfl d_Md_worked_206 (Nat.le_refl _) (Nat.le_refl _) ⟨rfl, rfl⟩
    · replace h := xneg c21 h
      refine x_lconst 1 d_Md_worked_201 (by decide) ?_
      refine x_goto 206 d_Md_worked_202 (by decide) ?_
      obtain rfl := Option.some.inj h
      exact x_lreturn rfl d_Md_worked_206 (Nat.le_refl _) (Nat.le_refl _) ⟨rfl, rfl⟩
  replace h := xneg c20 h
  by_cases c22 : a0 = 406
  · replace h := xpos c22 h
    refine x_lookup 206 207 d_Md_worked_1 (by decide) (by rw [c22]; decide) (by decide) ?_
    refine x_lload_n 1 d_Md_worked_207 rfl rfl ?_
    refine x_lload_n 2 d_Md_worked_208 rfl rfl ?_
    refine x_lmul d_Md_worked_209 ?_
    obtain rfl := Option.some.inj h
    exact x_lreturn rfl d_Md_worked_210 (Nat.le_refl _) (Nat.le_refl _) ⟨rfl, rfl⟩
  replace h := xneg c22 h
  refine x_lookup 210 211 d_Md_worked_1 (by decide) (by simp only [Array.toList]; rw [lv_osw (a := 35) c1 rfl, lv_osw (a := 42) c3 rfl, lv_osw (a := 43) c5 rfl, lv_osw (a := 45) c7 rfl, lv_osw (a := 47) c9 rfl, lv_osw (a := 60) c12 rfl, lv_osw (a := 61) c14 rfl, lv_osw (a := 62) c16 rfl, lv_osw (a := 300) c18 rfl, lv_osw (a := 301) c20 rfl, lv_osw (a := 406) c22 rfl]; rfl) (by decide) ?_
  refine x_lload_n 1 d_Md_worked_211 rfl rfl ?_
  refine x_lload_n 2 d_Md_worked_212 rfl rfl ?_
  refine x_ladd d_Md_worked_213 ?_
  refine x_lconst 0 d_Md_worked_214 (by decide) ?_
  refine x_lcmp d_Md_worked_215 ?_
  refine x_if_le 223 d_Md_worked_216 (by decide) (fun c23 => ?_) (fun c23 => ?_)
  · replace h := xpos c23 h
    refine x_lconst 0 d_Md_worked_223 (by decide) ?_
    obtain rfl := Option.some.inj h
    exact x_lreturn rfl d_Md_worked_224 (Nat.le_refl _) (Nat.le_refl _) ⟨rfl, rfl⟩
  · replace h := xneg c23 h
    refine x_lconst 1 d_Md_worked_219 (by decide) ?_
    refine x_goto 224 d_Md_worked_220 (by decide) ?_
    obtain rfl := Option.some.inj h
    exact x_lreturn rfl d_Md_worked_224 (Nat.le_refl _) (Nat.le_refl _) ⟨rfl, rfl⟩
-- Md_saysOf
def b_Md_saysOf_40 (V : xV) (k4 : Int32 → Int32 → xL → Option (Int64 × xL)) (v2 : Int32) (v3 : Int32) (v4 : Int32) (L : xL) : Option (Int64 × xL) := (if ¬ v4 = 400 then (if xI v3 1600 = true then (if xI (V 73 v3.toNatClampNeg) 13 = true then (if xI v2 200 = true then k4 (v2 + 1) (v3 + 1) (x2L L 83 v2.toNatClampNeg ((V 82 (V 73 v3.toNatClampNeg).toNatClampNeg).toInt64)) else none) else none) else none) else (if xI v3 1600 = true then (if xI v2 200 = true then k4 (v2 + 1) (v3 + 1) (x2L L 83 v2.toNatClampNeg ((V 73 v3.toNatClampNeg).toInt64)) else none) else none))
theorem tb_Md_saysOf_40 {V : xV} (k4 : Int32 → Int32 → xL → Option (Int64 × xL)) (res : Int64 × xL) (hk4 : ∀ (v2 : Int32) (v3 : Int32) (L : xL), k4 v2 v3 L = some res → X M_Md_saysOf (xRm (3) M_Md_saysOf) (xZ M_Md_saysOf (fun o h' => o = some (.long res.1) ∧ h' = (SH, V, res.2))) SH V L 0 0 4 [(0, .ref 65), (2, .int v2), (3, .int v3)] []) (v2 : Int32) (v3 : Int32) (v4 : Int32) (L : xL) (h : b_Md_saysOf_40 V k4 v2 v3 v4 L = some res) : X M_Md_saysOf (xRm (3) M_Md_saysOf) (xZ M_Md_saysOf (fun o h' => o = some (.long res.1) ∧ h' = (SH, V, res.2))) SH V L 0 0 40 [(0, .ref 65), (2, .int v2), (3, .int v3), (4, .int v4)] [] := by
  unfold b_Md_saysOf_40 at h
  refine x_aload_n 0 d_Md_saysOf_40 rfl rfl ?_
  refine x_getP (q := 83) f_Md_69 sh_65 rfl d_Md_saysOf_41 ?_
  refine x_iload_n 1 d_Md_saysOf_44 rfl rfl ?_
  refine x_iload 3 d_Md_saysOf_45 rfl ?_
  refine x_sipush 400 d_Md_saysOf_47 (by decide) ?_
  refine x_icmp_ne 63 d_Md_saysOf_50 (by decide) (fun c17 => ?_) (fun c17 => ?_)
  · replace h := xpos c17 h
    refine x_aload_n 0 d_Md_saysOf_63 rfl rfl ?_
    refine x_getP (q := 82) f_Md_66 sh_65 rfl d_Md_saysOf_64 ?_
    refine x_aload_n 0 d_Md_saysOf_67 rfl rfl ?_
    refine x_getP (q := 73) f_Md_39 sh_65 rfl d_Md_saysOf_68 ?_
    refine x_iload_n 2 d_Md_saysOf_71 rfl rfl ?_
    obtain ⟨c18, h⟩ := xguard h
    refine x_iaload sh_73 c18 d_Md_saysOf_72 ?_
    obtain ⟨c19, h⟩ := xguard h
    refine x_iaload sh_82 c19 d_Md_saysOf_73 ?_
    refine x_i2l d_Md_saysOf_74 ?_
    obtain ⟨c20, h⟩ := xguard h
    refine x_lastore sh_83 c20 d_Md_saysOf_75 ?_
    refine x_iinc 1 1 [(2, .int (v2 + 1)), (0, .ref 65), (3, .int v3), (4, .int v4)] d_Md_saysOf_76 rfl (by decide) (Nat.le_of_ble_eq_true rfl) rfl ?_
    refine x_goto 169 d_Md_saysOf_79 (by decide) ?_
    refine x_iinc 2 1 [(3, .int (v3 + 1)), (2, .int (v2 + 1)), (0, .ref 65), (4, .int v4)] d_Md_saysOf_169 rfl (by decide) (Nat.le_of_ble_eq_true rfl) rfl ?_
    refine x_goto 4 d_Md_saysOf_172 (by decide) ?_
    refine x_pick [2, 1, 0] rfl ?_
    exact hk4 (v2 + 1) (v3 + 1) (x2L L 83 v2.toNatClampNeg ((V 82 (V 73 v3.toNatClampNeg).toNatClampNeg).toInt64)) h
  · replace h := xneg c17 h
    refine x_aload_n 0 d_Md_saysOf_53 rfl rfl ?_
    refine x_getP (q := 73) f_Md_39 sh_65 rfl d_Md_saysOf_54 ?_
    refine x_iload_n 2 d_Md_saysOf_57 rfl rfl ?_
    obtain ⟨c21, h⟩ := xguard h
    refine x_iaload sh_73 c21 d_Md_saysOf_58 ?_
    refine x_i2l d_Md_saysOf_59 ?_
    refine x_goto 75 d_Md_saysOf_60 (by decide) ?_
    obtain ⟨c22, h⟩ := xguard h
    refine x_lastore sh_83 c22 d_Md_saysOf_75 ?_
    refine x_iinc 1 1 [(2, .int (v2 + 1)), (0, .ref 65), (3, .int v3), (4, .int v4)] d_Md_saysOf_76 rfl (by decide) (Nat.le_of_ble_eq_true rfl) rfl ?_
    refine x_goto 169 d_Md_saysOf_79 (by decide) ?_
    refine x_iinc 2 1 [(3, .int (v3 + 1)), (2, .int (v2 + 1)), (0, .ref 65), (4, .int v4)] d_Md_saysOf_169 rfl (by decide) (Nat.le_of_ble_eq_true rfl) rfl ?_
    refine x_goto 4 d_Md_saysOf_172 (by decide) ?_
    refine x_pick [2, 1, 0] rfl ?_
    exact hk4 (v2 + 1) (v3 + 1) (x2L L 83 v2.toNatClampNeg ((V 73 v3.toNatClampNeg).toInt64)) h
def b_Md_saysOf_4 (V : xV) (k4 : Int32 → Int32 → xL → Option (Int64 × xL)) (v2 : Int32) (v3 : Int32) (L : xL) : Option (Int64 × xL) := (if xI v3 1600 = true then (if (V 72 v3.toNatClampNeg) = 408 then some (L 83 0, L) else (if xI v3 1600 = true then (if (V 72 v3.toNatClampNeg) = 400 then b_Md_saysOf_40 V k4 v2 v3 (V 72 v3.toNatClampNeg) L else (if ¬ (V 72 v3.toNatClampNeg) = 401 then (if ¬ (V 72 v3.toNatClampNeg) = 402 then (if ¬ (V 72 v3.toNatClampNeg) = 405 then (if xI ((v2 + (-1)) - 1) 200 = true then (if xI (v2 + (-1)) 200 = true then (Option.bind (f_Md_worked (V 72 v3.toNatClampNeg) (L 83 ((v2 + (-1)) - 1).toNatClampNeg) (L 83 (v2 + (-1)).toNatClampNeg)) fun p10 => (if xI ((v2 + (-1)) - 1) 200 = true then k4 (v2 + (-1)) (v3 + 1) (x2L L 83 (((v2 + (-1)) - 1).toNatClampNeg) p10) else none)) else none) else none) else (if xI (v2 - 1) 200 = true then (if xI (v2 - 1) 200 = true then k4 v2 (v3 + 1) (x2L L 83 ((v2 - 1).toNatClampNeg) (1 - (L 83 (v2 - 1).toNatClampNeg))) else none) else none)) else (if xI (v2 - 1) 200 = true then (if xI (v2 - 1) 200 = true then k4 v2 (v3 + 1) (x2L L 83 ((v2 - 1).toNatClampNeg) (0 - (L 83 (v2 - 1).toNatClampNeg))) else none) else none)) else b_Md_saysOf_40 V k4 v2 v3 (V 72 v3.toNatClampNeg) L)) else none)) else none)
theorem tb_Md_saysOf_4 {V : xV} (k4 : Int32 → Int32 → xL → Option (Int64 × xL)) (res : Int64 × xL) (hk4 : ∀ (v2 : Int32) (v3 : Int32) (L : xL), k4 v2 v3 L = some res → X M_Md_saysOf (xRm (3) M_Md_saysOf) (xZ M_Md_saysOf (fun o h' => o = some (.long res.1) ∧ h' = (SH, V, res.2))) SH V L 0 0 4 [(0, .ref 65), (2, .int v2), (3, .int v3)] []) (v2 : Int32) (v3 : Int32) (L : xL) (h : b_Md_saysOf_4 V k4 v2 v3 L = some res) : X M_Md_saysOf (xRm (3) M_Md_saysOf) (xZ M_Md_saysOf (fun o h' => o = some (.long res.1) ∧ h' = (SH, V, res.2))) SH V L 0 0 4 [(0, .ref 65), (2, .int v2), (3, .int v3)] [] := by
  unfold b_Md_saysOf_4 at h
  refine x_aload_n 0 d_Md_saysOf_4 rfl rfl ?_
  refine x_getP (q := 72) f_Md_36 sh_65 rfl d_Md_saysOf_5 ?_
  refine x_iload_n 2 d_Md_saysOf_8 rfl rfl ?_
  obtain ⟨c1, h⟩ := xguard h
  refine x_iaload sh_72 c1 d_Md_saysOf_9 ?_
  refine x_sipush 408 d_Md_saysOf_10 (by decide) ?_
  refine x_icmp_eq 175 d_Md_saysOf_13 (by decide) (fun c2 => ?_) (fun c2 => ?_)
  · replace h := xpos c2 h
    refine x_aload_n 0 d_Md_saysOf_175 rfl rfl ?_
    refine x_getP (q := 83) f_Md_69 sh_65 rfl d_Md_saysOf_176 ?_
    refine x_iconst 0 d_Md_saysOf_179 (by decide) ?_
    refine x_laloadC 0 sh_83 (by decide) (by decide) d_Md_saysOf_180 ?_
    obtain rfl := Option.some.inj h
    exact x_lreturn rfl d_Md_saysOf_181 (Nat.le_refl _) (Nat.le_refl _) ⟨rfl, rfl⟩
  · replace h := xneg c2 h
    refine x_aload_n 0 d_Md_saysOf_16 rfl rfl ?_
    refine x_getP (q := 72) f_Md_36 sh_65 rfl d_Md_saysOf_17 ?_
    refine x_iload_n 2 d_Md_saysOf_20 rfl rfl ?_
    obtain ⟨c3, h⟩ := xguard h
    refine x_iaload sh_72 c3 d_Md_saysOf_21 ?_
    refine x_istore [(4, .int (V 72 v3.toNatClampNeg)), (0, .ref 65), (2, .int v2), (3, .int v3)] d_Md_saysOf_22 (Nat.le_of_ble_eq_true rfl) rfl ?_
    refine x_iload 0 d_Md_saysOf_24 rfl ?_
    refine x_sipush 400 d_Md_saysOf_26 (by decide) ?_
    refine x_icmp_eq 40 d_Md_saysOf_29 (by decide) (fun c4 => ?_) (fun c4 => ?_)
    · replace h := xpos c4 h
      refine x_pick [1, 2, 3, 0] rfl ?_
      exact tb_Md_saysOf_40 (V := V) k4 res hk4 v2 v3 (V 72 v3.toNatClampNeg) L h
    · replace h := xneg c4 h
      refine x_iload 0 d_Md_saysOf_32 rfl ?_
      refine x_sipush 401 d_Md_saysOf_34 (by decide) ?_
      refine x_icmp_ne 82 d_Md_saysOf_37 (by decide) (fun c5 => ?_) (fun c5 => ?_)
      · replace h := xpos c5 h
        refine x_iload 0 d_Md_saysOf_82 rfl ?_
        refine x_sipush 402 d_Md_saysOf_84 (by decide) ?_
        refine x_icmp_ne 110 d_Md_saysOf_87 (by decide) (fun c6 => ?_) (fun c6 => ?_)
        · replace h := xpos c6 h
          refine x_iload 0 d_Md_saysOf_110 rfl ?_
          refine x_sipush 405 d_Md_saysOf_112 (by decide) ?_
          refine x_icmp_ne 139 d_Md_saysOf_115 (by decide) (fun c7 => ?_) (fun c7 => ?_)
          · replace h := xpos c7 h
            refine x_iinc 2 (-1) [(2, .int (v2 + (-1))), (4, .int (V 72 v3.toNatClampNeg)), (0, .ref 65), (3, .int v3)] d_Md_saysOf_139 rfl (by decide) (Nat.le_of_ble_eq_true rfl) rfl ?_
            refine x_aload_n 2 d_Md_saysOf_142 rfl rfl ?_
            refine x_getP (q := 83) f_Md_69 sh_65 rfl d_Md_saysOf_143 ?_
            refine x_iload_n 0 d_Md_saysOf_146 rfl rfl ?_
            refine x_iconst 1 d_Md_saysOf_147 (by decide) ?_
            refine x_isub d_Md_saysOf_148 ?_
            refine x_iload 1 d_Md_saysOf_149 rfl ?_
            refine x_aload_n 2 d_Md_saysOf_151 rfl rfl ?_
            refine x_getP (q := 83) f_Md_69 sh_65 rfl d_Md_saysOf_152 ?_
            refine x_iload_n 0 d_Md_saysOf_155 rfl rfl ?_
            refine x_iconst 1 d_Md_saysOf_156 (by decide) ?_
            refine x_isub d_Md_saysOf_157 ?_
            obtain ⟨c8, h⟩ := xguard h
            refine x_laload sh_83 c8 d_Md_saysOf_158 ?_
            refine x_aload_n 2 d_Md_saysOf_159 rfl rfl ?_
            refine x_getP (q := 83) f_Md_69 sh_65 rfl d_Md_saysOf_160 ?_
            refine x_iload_n 0 d_Md_saysOf_163 rfl rfl ?_
            obtain ⟨c9, h⟩ := xguard h
            refine x_laload sh_83 c9 d_Md_saysOf_164 ?_
            obtain ⟨p10, e11, h⟩ := xbind h
            refine x_callS0 e_Md_283 (t_Md_worked (V 72 v3.toNatClampNeg) (L 83 ((v2 + (-1)) - 1).toNatClampNeg) (L 83 (v2 + (-1)).toNatClampNeg) V L _ e11) rfl rfl rfl (Nat.le_of_ble_eq_true rfl) (xfit_of (by omega) (Nat.le_of_ble_eq_true rfl)) (Nat.zero_le _) (Nat.zero_le _) d_Md_saysOf_165 ?_
            obtain ⟨c12, h⟩ := xguard h
            refine x_lastore sh_83 c12 d_Md_saysOf_168 ?_
            refine x_iinc 3 1 [(3, .int (v3 + 1)), (2, .int (v2 + (-1))), (4, .int (V 72 v3.toNatClampNeg)), (0, .ref 65)] d_Md_saysOf_169 rfl (by decide) (Nat.le_of_ble_eq_true rfl) rfl ?_
            refine x_goto 4 d_Md_saysOf_172 (by decide) ?_
            refine x_pick [3, 1, 0] rfl ?_
            exact hk4 (v2 + (-1)) (v3 + 1) (x2L L 83 (((v2 + (-1)) - 1).toNatClampNeg) p10) h
          · replace h := xneg c7 h
            refine x_aload_n 1 d_Md_saysOf_118 rfl rfl ?_
            refine x_getP (q := 83) f_Md_69 sh_65 rfl d_Md_saysOf_119 ?_
            refine x_iload_n 2 d_Md_saysOf_122 rfl rfl ?_
            refine x_iconst 1 d_Md_saysOf_123 (by decide) ?_
            refine x_isub d_Md_saysOf_124 ?_
            refine x_lconst 1 d_Md_saysOf_125 (by decide) ?_
            refine x_aload_n 1 d_Md_saysOf_126 rfl rfl ?_
            refine x_getP (q := 83) f_Md_69 sh_65 rfl d_Md_saysOf_127 ?_
            refine x_iload_n 2 d_Md_saysOf_130 rfl rfl ?_
            refine x_iconst 1 d_Md_saysOf_131 (by decide) ?_
            refine x_isub d_Md_saysOf_132 ?_
            obtain ⟨c13, h⟩ := xguard h
            refine x_laload sh_83 c13 d_Md_saysOf_133 ?_
            refine x_lsub d_Md_saysOf_134 ?_
            obtain ⟨c14, h⟩ := xguard h
            refine x_lastore sh_83 c14 d_Md_saysOf_135 ?_
            refine x_goto 169 d_Md_saysOf_136 (by decide) ?_
            refine x_iinc 3 1 [(3, .int (v3 + 1)), (4, .int (V 72 v3.toNatClampNeg)), (0, .ref 65), (2, .int v2)] d_Md_saysOf_169 rfl (by decide) (Nat.le_of_ble_eq_true rfl) rfl ?_
            refine x_goto 4 d_Md_saysOf_172 (by decide) ?_
            refine x_pick [2, 3, 0] rfl ?_
            exact hk4 v2 (v3 + 1) (x2L L 83 ((v2 - 1).toNatClampNeg) (1 - (L 83 (v2 - 1).toNatClampNeg))) h
        · replace h := xneg c6 h
          refine x_aload_n 1 d_Md_saysOf_90 rfl rfl ?_
          refine x_getP (q := 83) f_Md_69 sh_65 rfl d_Md_saysOf_91 ?_
          refine x_iload_n 2 d_Md_saysOf_94 rfl rfl ?_
          refine x_iconst 1 d_Md_saysOf_95 (by decide) ?_
          refine x_isub d_Md_saysOf_96 ?_
          refine x_aload_n 1 d_Md_saysOf_97 rfl rfl ?_
          refine x_getP (q := 83) f_Md_69 sh_65 rfl d_Md_saysOf_98 ?_
          refine x_iload_n 2 d_Md_saysOf_101 rfl rfl ?_
          refine x_iconst 1 d_Md_saysOf_102 (by decide) ?_
          refine x_isub d_Md_saysOf_103 ?_
          obtain ⟨c15, h⟩ := xguard h
          refine x_laload sh_83 c15 d_Md_saysOf_104 ?_
          refine x_lneg d_Md_saysOf_105 ?_
          obtain ⟨c16, h⟩ := xguard h
          refine x_lastore sh_83 c16 d_Md_saysOf_106 ?_
          refine x_goto 169 d_Md_saysOf_107 (by decide) ?_
          refine x_iinc 3 1 [(3, .int (v3 + 1)), (4, .int (V 72 v3.toNatClampNeg)), (0, .ref 65), (2, .int v2)] d_Md_saysOf_169 rfl (by decide) (Nat.le_of_ble_eq_true rfl) rfl ?_
          refine x_goto 4 d_Md_saysOf_172 (by decide) ?_
          refine x_pick [2, 3, 0] rfl ?_
          exact hk4 v2 (v3 + 1) (x2L L 83 ((v2 - 1).toNatClampNeg) (0 - (L 83 (v2 - 1).toNatClampNeg))) h
      · replace h := xneg c5 h
        refine x_pick [1, 2, 3, 0] rfl ?_
        exact tb_Md_saysOf_40 (V := V) k4 res hk4 v2 v3 (V 72 v3.toNatClampNeg) L h
def g_Md_saysOf_4 (V : xV) : Nat → Int32 → Int32 → xL → Option (Int64 × xL)
  | 0, _, _, _ => none
  | n + 1, v2, v3, L => b_Md_saysOf_4 V (g_Md_saysOf_4 V n) v2 v3 L
theorem tg_Md_saysOf_4 {V : xV} (res : Int64 × xL)  : ∀ (n : Nat) (v2 : Int32) (v3 : Int32) (L : xL), g_Md_saysOf_4 V n v2 v3 L = some res → X M_Md_saysOf (xRm (3) M_Md_saysOf) (xZ M_Md_saysOf (fun o h' => o = some (.long res.1) ∧ h' = (SH, V, res.2))) SH V L 0 0 4 [(0, .ref 65), (2, .int v2), (3, .int v3)] []
  | 0, _, _, _, h => by cases h
  | n + 1, v2, v3, L, h => tb_Md_saysOf_4 (V := V) (g_Md_saysOf_4 V n) res (tg_Md_saysOf_4 (V := V) res n) v2 v3 L h
def f_Md_saysOf (a1 : Int32) (V : xV) (L : xL) : Option (Int64 × xL) := g_Md_saysOf_4 V 2000 0 a1 L
theorem t_Md_saysOf (a1 : Int32) (V : xV) (L : xL) (res : Int64 × xL) (h : f_Md_saysOf a1 V L = some res) : xRuns (3) M_Md_saysOf [.ref 65, .int a1] (SH, V, L) (fun o h' => o = some (.long res.1) ∧ h' = (SH, V, res.2)) := by
  refine xRuns_of (by decide) (Nat.le_of_ble_eq_true rfl) ?_
  unfold f_Md_saysOf at h
  show X M_Md_saysOf (xRm (3) M_Md_saysOf) (xZ M_Md_saysOf (fun o h' => o = some (.long res.1) ∧ h' = (SH, V, res.2))) SH V L 0 0 0 [(0, .ref 65), (1, .int a1)] []
  refine x_iconst 0 d_Md_saysOf_0 (by decide) ?_
  refine x_istore_n [(2, .int 0), (0, .ref 65), (1, .int a1)] d_Md_saysOf_1 rfl (Nat.le_of_ble_eq_true rfl) rfl ?_
  refine x_iload_n 2 d_Md_saysOf_2 rfl rfl ?_
  refine x_istore_n [(3, .int a1), (2, .int 0), (0, .ref 65), (1, .int a1)] d_Md_saysOf_3 rfl (Nat.le_of_ble_eq_true rfl) rfl ?_
  refine x_pick [2, 1, 0] rfl ?_
  exact tg_Md_saysOf_4 (V := V) res _ 0 a1 L h
