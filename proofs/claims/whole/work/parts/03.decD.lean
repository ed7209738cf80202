theorem dX5_findForgotten_18 : decode cX5_findForgotten 18 = .ok (.if_icmp .gt 64, 3) := by decide +kernel
theorem dX5_findForgotten_21 : decode cX5_findForgotten 21 = .ok (.iload_n 1, 1) := by decide +kernel
theorem dX5_findForgotten_22 : decode cX5_findForgotten 22 = .ok (.ifCond .ge 60, 3) := by decide +kernel
theorem dX5_findForgotten_25 : decode cX5_findForgotten 25 = .ok (.aload_n 0, 1) := by decide +kernel
theorem dX5_findForgotten_26 : decode cX5_findForgotten 26 = .ok (.getfield 55, 3) := by decide +kernel
theorem dX5_findForgotten_29 : decode cX5_findForgotten 29 = .ok (.iconst 1, 1) := by decide +kernel
theorem dX5_findForgotten_30 : decode cX5_findForgotten 30 = .ok (.isub, 1) := by decide +kernel
theorem dX5_findForgotten_31 : decode cX5_findForgotten 31 = .ok (.istore_n 3, 1) := by decide +kernel
theorem dX5_findForgotten_32 : decode cX5_findForgotten 32 = .ok (.iload_n 3, 1) := by decide +kernel
theorem dX5_findForgotten_33 : decode cX5_findForgotten 33 = .ok (.ifCond .lt 24, 3) := by decide +kernel
theorem dX5_findForgotten_36 : decode cX5_findForgotten 36 = .ok (.aload_n 0, 1) := by decide +kernel
theorem dX5_findForgotten_37 : decode cX5_findForgotten 37 = .ok (.getfield 22, 3) := by decide +kernel
theorem dX5_findForgotten_40 : decode cX5_findForgotten 40 = .ok (.iload_n 3, 1) := by decide +kernel
theorem dX5_findForgotten_41 : decode cX5_findForgotten 41 = .ok (.iaload, 1) := by decide +kernel
theorem dX5_findForgotten_42 : decode cX5_findForgotten 42 = .ok (.ifCond .ne 7, 3) := by decide +kernel
theorem dX5_findForgotten_45 : decode cX5_findForgotten 45 = .ok (.iload_n 3, 1) := by decide +kernel
theorem dX5_findForgotten_46 : decode cX5_findForgotten 46 = .ok (.goto 4, 3) := by decide +kernel
theorem dX5_findForgotten_49 : decode cX5_findForgotten 49 = .ok (.iload_n 1, 1) := by decide +kernel
theorem dX5_findForgotten_50 : decode cX5_findForgotten 50 = .ok (.istore_n 1, 1) := by decide +kernel
theorem dX5_findForgotten_51 : decode cX5_findForgotten 51 = .ok (.iinc 3 (-1), 3) := by decide +kernel
theorem dX5_findForgotten_54 : decode cX5_findForgotten 54 = .ok (.goto (-22), 3) := by decide +kernel
theorem dX5_findForgotten_57 : decode cX5_findForgotten 57 = .ok (.aload_n 0, 1) := by decide +kernel
theorem dX5_findForgotten_58 : decode cX5_findForgotten 58 = .ok (.iload_n 1, 1) := by decide +kernel
theorem dX5_findForgotten_59 : decode cX5_findForgotten 59 = .ok (.ifCond .ge 8, 3) := by decide +kernel
theorem dX5_findForgotten_62 : decode cX5_findForgotten 62 = .ok (.bipush (-9), 2) := by decide +kernel
theorem dX5_findForgotten_64 : decode cX5_findForgotten 64 = .ok (.goto 4, 3) := by decide +kernel
theorem dX5_findForgotten_67 : decode cX5_findForgotten 67 = .ok (.iload_n 2, 1) := by decide +kernel
theorem dX5_findForgotten_68 : decode cX5_findForgotten 68 = .ok (.putfield 209, 3) := by decide +kernel
theorem dX5_findForgotten_71 : decode cX5_findForgotten 71 = .ok (.aload_n 0, 1) := by decide +kernel
theorem dX5_findForgotten_72 : decode cX5_findForgotten 72 = .ok (.iconst 0, 1) := by decide +kernel
theorem dX5_findForgotten_73 : decode cX5_findForgotten 73 = .ok (.invokevirtual 189, 3) := by decide +kernel
theorem dX5_findForgotten_76 : decode cX5_findForgotten 76 = .ok (.iinc 2 1, 3) := by decide +kernel
theorem dX5_findForgotten_79 : decode cX5_findForgotten 79 = .ok (.goto (-64), 3) := by decide +kernel
theorem dX5_findForgotten_82 : decode cX5_findForgotten 82 = .ok (.aload_n 0, 1) := by decide +kernel
theorem dX5_findForgotten_83 : decode cX5_findForgotten 83 = .ok (.invokevirtual 203, 3) := by decide +kernel
theorem dX5_findForgotten_86 : decode cX5_findForgotten 86 = .ok (.iload_n 1, 1) := by decide +kernel
theorem dX5_findForgotten_87 : decode cX5_findForgotten 87 = .ok (.ireturn, 1) := by decide +kernel
theorem dX5_first_0 : decode cX5_first 0 = .ok (.iload_n 1, 1) := by decide +kernel
theorem dX5_first_1 : decode cX5_first 1 = .ok (.iconst 0, 1) := by decide +kernel
theorem dX5_first_2 : decode cX5_first 2 = .ok (.iconst 1, 1) := by decide +kernel
theorem dX5_first_3 : decode cX5_first 3 = .ok (.invokestatic 80, 3) := by decide +kernel
theorem dX5_first_6 : decode cX5_first 6 = .ok (.ifCond .ne 10, 3) := by decide +kernel
theorem dX5_first_9 : decode cX5_first 9 = .ok (.aload_n 0, 1) := by decide +kernel
theorem dX5_first_10 : decode cX5_first 10 = .ok (.bipush (-2), 2) := by decide +kernel
theorem dX5_first_12 : decode cX5_first 12 = .ok (.invokevirtual 69, 3) := by decide +kernel
theorem dX5_first_15 : decode cX5_first 15 = .ok (.ireturn, 1) := by decide +kernel
theorem dX5_first_16 : decode cX5_first 16 = .ok (.aload_n 0, 1) := by decide +kernel
theorem dX5_first_17 : decode cX5_first 17 = .ok (.invokevirtual 212, 3) := by decide +kernel
theorem dX5_first_20 : decode cX5_first 20 = .ok (.istore_n 2, 1) := by decide +kernel
theorem dX5_first_21 : decode cX5_first 21 = .ok (.iload_n 1, 1) := by decide +kernel
theorem dX5_first_22 : decode cX5_first 22 = .ok (.ifCond .ne 7, 3) := by decide +kernel
theorem dX5_first_25 : decode cX5_first 25 = .ok (.iload_n 2, 1) := by decide +kernel
theorem dX5_first_26 : decode cX5_first 26 = .ok (.goto 7, 3) := by decide +kernel
theorem dX5_first_29 : decode cX5_first 29 = .ok (.aload_n 0, 1) := by decide +kernel
theorem dX5_first_30 : decode cX5_first 30 = .ok (.getfield 209, 3) := by decide +kernel
theorem dX5_first_33 : decode cX5_first 33 = .ok (.ireturn, 1) := by decide +kernel
theorem dX5_leads_0 : decode cX5_leads 0 = .ok (.iload_n 1, 1) := by decide +kernel
theorem dX5_leads_1 : decode cX5_leads 1 = .ok (.iconst 0, 1) := by decide +kernel
theorem dX5_leads_2 : decode cX5_leads 2 = .ok (.bipush 60, 2) := by decide +kernel
theorem dX5_leads_4 : decode cX5_leads 4 = .ok (.invokestatic 62, 3) := by decide +kernel
theorem dX5_leads_7 : decode cX5_leads 7 = .ok (.istore_n 2, 1) := by decide +kernel
theorem dX5_leads_8 : decode cX5_leads 8 = .ok (.iload_n 2, 1) := by decide +kernel
theorem dX5_leads_9 : decode cX5_leads 9 = .ok (.ifCond .eq 9, 3) := by decide +kernel
theorem dX5_leads_12 : decode cX5_leads 12 = .ok (.aload_n 0, 1) := by decide +kernel
theorem dX5_leads_13 : decode cX5_leads 13 = .ok (.iload_n 2, 1) := by decide +kernel
theorem dX5_leads_14 : decode cX5_leads 14 = .ok (.invokevirtual 69, 3) := by decide +kernel
theorem dX5_leads_17 : decode cX5_leads 17 = .ok (.ireturn, 1) := by decide +kernel
theorem dX5_leads_18 : decode cX5_leads 18 = .ok (.aload_n 0, 1) := by decide +kernel
theorem dX5_leads_19 : decode cX5_leads 19 = .ok (.invokevirtual 200, 3) := by decide +kernel
theorem dX5_leads_22 : decode cX5_leads 22 = .ok (.aload_n 0, 1) := by decide +kernel
theorem dX5_leads_23 : decode cX5_leads 23 = .ok (.iload_n 1, 1) := by decide +kernel
theorem dX5_leads_24 : decode cX5_leads 24 = .ok (.invokevirtual 104, 3) := by decide +kernel
theorem dX5_leads_27 : decode cX5_leads 27 = .ok (.bipush (-9), 2) := by decide +kernel
theorem dX5_leads_29 : decode cX5_leads 29 = .ok (.istore_n 3, 1) := by decide +kernel
theorem dX5_leads_30 : decode cX5_leads 30 = .ok (.iconst 0, 1) := by decide +kernel
theorem dX5_leads_31 : decode cX5_leads 31 = .ok (.istore 4, 2) := by decide +kernel
theorem dX5_leads_33 : decode cX5_leads 33 = .ok (.iload 4, 2) := by decide +kernel
theorem dX5_leads_35 : decode cX5_leads 35 = .ok (.aload_n 0, 1) := by decide +kernel
theorem dX5_leads_36 : decode cX5_leads 36 = .ok (.getfield 55, 3) := by decide +kernel
theorem dX5_leads_39 : decode cX5_leads 39 = .ok (.if_icmp .ge 36, 3) := by decide +kernel
theorem dX5_leads_42 : decode cX5_leads 42 = .ok (.iload_n 3, 1) := by decide +kernel
theorem dX5_leads_43 : decode cX5_leads 43 = .ok (.ifCond .lt 19, 3) := by decide +kernel
theorem dX5_leads_46 : decode cX5_leads 46 = .ok (.aload_n 0, 1) := by decide +kernel
theorem dX5_leads_47 : decode cX5_leads 47 = .ok (.getfield 22, 3) := by decide +kernel
theorem dX5_leads_50 : decode cX5_leads 50 = .ok (.iload 4, 2) := by decide +kernel
theorem dX5_leads_52 : decode cX5_leads 52 = .ok (.iaload, 1) := by decide +kernel
theorem dX5_leads_53 : decode cX5_leads 53 = .ok (.aload_n 0, 1) := by decide +kernel
theorem dX5_leads_54 : decode cX5_leads 54 = .ok (.getfield 22, 3) := by decide +kernel
theorem dX5_leads_57 : decode cX5_leads 57 = .ok (.iload_n 3, 1) := by decide +kernel
theorem dX5_leads_58 : decode cX5_leads 58 = .ok (.iaload, 1) := by decide +kernel
theorem dX5_leads_59 : decode cX5_leads 59 = .ok (.if_icmp .le 8, 3) := by decide +kernel
theorem dX5_leads_62 : decode cX5_leads 62 = .ok (.iload 4, 2) := by decide +kernel
theorem dX5_leads_64 : decode cX5_leads 64 = .ok (.goto 4, 3) := by decide +kernel
theorem dX5_leads_67 : decode cX5_leads 67 = .ok (.iload_n 3, 1) := by decide +kernel
theorem dX5_leads_68 : decode cX5_leads 68 = .ok (.istore_n 3, 1) := by decide +kernel
theorem dX5_leads_69 : decode cX5_leads 69 = .ok (.iinc 4 1, 3) := by decide +kernel
theorem dX5_leads_72 : decode cX5_leads 72 = .ok (.goto (-39), 3) := by decide +kernel
theorem dX5_leads_75 : decode cX5_leads 75 = .ok (.aload_n 0, 1) := by decide +kernel
theorem dX5_leads_76 : decode cX5_leads 76 = .ok (.invokevirtual 203, 3) := by decide +kernel
theorem dX5_leads_79 : decode cX5_leads 79 = .ok (.iload_n 3, 1) := by decide +kernel
theorem dX5_leads_80 : decode cX5_leads 80 = .ok (.ireturn, 1) := by decide +kernel
theorem dX5_ringsBy_0 : decode cX5_ringsBy 0 = .ok (.iconst 1, 1) := by decide +kernel
theorem dX5_ringsBy_1 : decode cX5_ringsBy 1 = .ok (.aload_n 0, 1) := by decide +kernel
theorem dX5_ringsBy_2 : decode cX5_ringsBy 2 = .ok (.getfield 55, 3) := by decide +kernel
theorem dX5_ringsBy_5 : decode cX5_ringsBy 5 = .ok (.ishl, 1) := by decide +kernel
theorem dX5_ringsBy_6 : decode cX5_ringsBy 6 = .ok (.iconst 1, 1) := by decide +kernel
theorem dX5_ringsBy_7 : decode cX5_ringsBy 7 = .ok (.isub, 1) := by decide +kernel
theorem dX5_ringsBy_8 : decode cX5_ringsBy 8 = .ok (.iconst 1, 1) := by decide +kernel
theorem dX5_ringsBy_9 : decode cX5_ringsBy 9 = .ok (.aload_n 0, 1) := by decide +kernel
theorem dX5_ringsBy_10 : decode cX5_ringsBy 10 = .ok (.getfield 28, 3) := by decide +kernel
theorem dX5_ringsBy_13 : decode cX5_ringsBy 13 = .ok (.iconst 0, 1) := by decide +kernel
theorem dX5_ringsBy_14 : decode cX5_ringsBy 14 = .ok (.iaload, 1) := by decide +kernel
theorem dX5_ringsBy_15 : decode cX5_ringsBy 15 = .ok (.ishl, 1) := by decide +kernel
theorem dX5_ringsBy_16 : decode cX5_ringsBy 16 = .ok (.iconst (-1), 1) := by decide +kernel
theorem dX5_ringsBy_17 : decode cX5_ringsBy 17 = .ok (.ixor, 1) := by decide +kernel
theorem dX5_ringsBy_18 : decode cX5_ringsBy 18 = .ok (.iand, 1) := by decide +kernel
theorem dX5_ringsBy_19 : decode cX5_ringsBy 19 = .ok (.istore_n 3, 1) := by decide +kernel
theorem dX5_ringsBy_20 : decode cX5_ringsBy 20 = .ok (.iload_n 1, 1) := by decide +kernel
theorem dX5_ringsBy_21 : decode cX5_ringsBy 21 = .ok (.istore 4, 2) := by decide +kernel
theorem dX5_ringsBy_23 : decode cX5_ringsBy 23 = .ok (.iload_n 2, 1) := by decide +kernel
theorem dX5_ringsBy_24 : decode cX5_ringsBy 24 = .ok (.istore 5, 2) := by decide +kernel
theorem dX5_ringsBy_26 : decode cX5_ringsBy 26 = .ok (.iconst 1, 1) := by decide +kernel
theorem dX5_ringsBy_27 : decode cX5_ringsBy 27 = .ok (.istore 6, 2) := by decide +kernel
theorem dX5_ringsBy_29 : decode cX5_ringsBy 29 = .ok (.iload 6, 2) := by decide +kernel
theorem dX5_ringsBy_31 : decode cX5_ringsBy 31 = .ok (.aload_n 0, 1) := by decide +kernel
theorem dX5_ringsBy_32 : decode cX5_ringsBy 32 = .ok (.getfield 55, 3) := by decide +kernel
theorem dX5_ringsBy_35 : decode cX5_ringsBy 35 = .ok (.if_icmp .ge 57, 3) := by decide +kernel
theorem dX5_ringsBy_38 : decode cX5_ringsBy 38 = .ok (.iload 5, 2) := by decide +kernel
theorem dX5_ringsBy_40 : decode cX5_ringsBy 40 = .ok (.aload_n 0, 1) := by decide +kernel
theorem dX5_ringsBy_41 : decode cX5_ringsBy 41 = .ok (.getfield 55, 3) := by decide +kernel
theorem dX5_ringsBy_44 : decode cX5_ringsBy 44 = .ok (.iload 6, 2) := by decide +kernel
theorem dX5_ringsBy_46 : decode cX5_ringsBy 46 = .ok (.isub, 1) := by decide +kernel
theorem dX5_ringsBy_47 : decode cX5_ringsBy 47 = .ok (.idiv, 1) := by decide +kernel
theorem dX5_ringsBy_48 : decode cX5_ringsBy 48 = .ok (.istore 5, 2) := by decide +kernel
theorem dX5_ringsBy_50 : decode cX5_ringsBy 50 = .ok (.iload_n 3, 1) := by decide +kernel
theorem dX5_ringsBy_51 : decode cX5_ringsBy 51 = .ok (.iload 4, 2) := by decide +kernel
theorem dX5_ringsBy_53 : decode cX5_ringsBy 53 = .ok (.iload 5, 2) := by decide +kernel
theorem dX5_ringsBy_55 : decode cX5_ringsBy 55 = .ok (.idiv, 1) := by decide +kernel
theorem dX5_ringsBy_56 : decode cX5_ringsBy 56 = .ok (.invokestatic 215, 3) := by decide +kernel
theorem dX5_ringsBy_59 : decode cX5_ringsBy 59 = .ok (.istore 7, 2) := by decide +kernel
theorem dX5_ringsBy_61 : decode cX5_ringsBy 61 = .ok (.iload 4, 2) := by decide +kernel
theorem dX5_ringsBy_63 : decode cX5_ringsBy 63 = .ok (.iload 5, 2) := by decide +kernel
theorem dX5_ringsBy_65 : decode cX5_ringsBy 65 = .ok (.irem, 1) := by decide +kernel
theorem dX5_ringsBy_66 : decode cX5_ringsBy 66 = .ok (.istore 4, 2) := by decide +kernel
theorem dX5_ringsBy_68 : decode cX5_ringsBy 68 = .ok (.aload_n 0, 1) := by decide +kernel
theorem dX5_ringsBy_69 : decode cX5_ringsBy 69 = .ok (.getfield 28, 3) := by decide +kernel
theorem dX5_ringsBy_72 : decode cX5_ringsBy 72 = .ok (.iload 6, 2) := by decide +kernel
theorem dX5_ringsBy_74 : decode cX5_ringsBy 74 = .ok (.iload 7, 2) := by decide +kernel
theorem dX5_ringsBy_76 : decode cX5_ringsBy 76 = .ok (.iastore, 1) := by decide +kernel
theorem dX5_ringsBy_77 : decode cX5_ringsBy 77 = .ok (.iload_n 3, 1) := by decide +kernel
theorem dX5_ringsBy_78 : decode cX5_ringsBy 78 = .ok (.iconst 1, 1) := by decide +kernel
theorem dX5_ringsBy_79 : decode cX5_ringsBy 79 = .ok (.iload 7, 2) := by decide +kernel
theorem dX5_ringsBy_81 : decode cX5_ringsBy 81 = .ok (.ishl, 1) := by decide +kernel
theorem dX5_ringsBy_82 : decode cX5_ringsBy 82 = .ok (.iconst (-1), 1) := by decide +kernel
theorem dX5_ringsBy_83 : decode cX5_ringsBy 83 = .ok (.ixor, 1) := by decide +kernel
theorem dX5_ringsBy_84 : decode cX5_ringsBy 84 = .ok (.iand, 1) := by decide +kernel
theorem dX5_ringsBy_85 : decode cX5_ringsBy 85 = .ok (.istore_n 3, 1) := by decide +kernel
theorem dX5_ringsBy_86 : decode cX5_ringsBy 86 = .ok (.iinc 6 1, 3) := by decide +kernel
theorem dX5_ringsBy_89 : decode cX5_ringsBy 89 = .ok (.goto (-60), 3) := by decide +kernel
theorem dX5_ringsBy_92 : decode cX5_ringsBy 92 = .ok (.return_, 1) := by decide +kernel
theorem dX5_nth_0 : decode cX5_nth 0 = .ok (.iload_n 1, 1) := by decide +kernel
theorem dX5_nth_1 : decode cX5_nth 1 = .ok (.istore_n 2, 1) := by decide +kernel
theorem dX5_nth_2 : decode cX5_nth 2 = .ok (.iconst 0, 1) := by decide +kernel
theorem dX5_nth_3 : decode cX5_nth 3 = .ok (.istore_n 3, 1) := by decide +kernel
theorem dX5_nth_4 : decode cX5_nth 4 = .ok (.iload_n 0, 1) := by decide +kernel
theorem dX5_nth_5 : decode cX5_nth 5 = .ok (.iload_n 3, 1) := by decide +kernel
theorem dX5_nth_6 : decode cX5_nth 6 = .ok (.invokestatic 218, 3) := by decide +kernel
theorem dX5_nth_9 : decode cX5_nth 9 = .ok (.ifCond .eq 7, 3) := by decide +kernel
theorem dX5_nth_12 : decode cX5_nth 12 = .ok (.iload_n 2, 1) := by decide +kernel
theorem dX5_nth_13 : decode cX5_nth 13 = .ok (.ifCond .le 25, 3) := by decide +kernel
theorem dX5_nth_16 : decode cX5_nth 16 = .ok (.iload_n 2, 1) := by decide +kernel
theorem dX5_nth_17 : decode cX5_nth 17 = .ok (.iload_n 0, 1) := by decide +kernel
theorem dX5_nth_18 : decode cX5_nth 18 = .ok (.iload_n 3, 1) := by decide +kernel
theorem dX5_nth_19 : decode cX5_nth 19 = .ok (.invokestatic 218, 3) := by decide +kernel
theorem dX5_nth_22 : decode cX5_nth 22 = .ok (.ifCond .eq 7, 3) := by decide +kernel
theorem dX5_nth_25 : decode cX5_nth 25 = .ok (.iconst 1, 1) := by decide +kernel
theorem dX5_nth_26 : decode cX5_nth 26 = .ok (.goto 4, 3) := by decide +kernel
theorem dX5_nth_29 : decode cX5_nth 29 = .ok (.iconst 0, 1) := by decide +kernel
theorem dX5_nth_30 : decode cX5_nth 30 = .ok (.isub, 1) := by decide +kernel
theorem dX5_nth_31 : decode cX5_nth 31 = .ok (.istore_n 2, 1) := by decide +kernel
theorem dX5_nth_32 : decode cX5_nth 32 = .ok (.iinc 3 1, 3) := by decide +kernel
theorem dX5_nth_35 : decode cX5_nth 35 = .ok (.goto (-31), 3) := by decide +kernel
theorem dX5_nth_38 : decode cX5_nth 38 = .ok (.iload_n 3, 1) := by decide +kernel
theorem dX5_nth_39 : decode cX5_nth 39 = .ok (.ireturn, 1) := by decide +kernel
theorem dX5_findRing_0 : decode cX5_findRing 0 = .ok (.iconst 1, 1) := by decide +kernel
theorem dX5_findRing_1 : decode cX5_findRing 1 = .ok (.istore_n 1, 1) := by decide +kernel
theorem dX5_findRing_2 : decode cX5_findRing 2 = .ok (.iconst 2, 1) := by decide +kernel
theorem dX5_findRing_3 : decode cX5_findRing 3 = .ok (.istore_n 2, 1) := by decide +kernel
theorem dX5_findRing_4 : decode cX5_findRing 4 = .ok (.iload_n 2, 1) := by decide +kernel
theorem dX5_findRing_5 : decode cX5_findRing 5 = .ok (.aload_n 0, 1) := by decide +kernel
theorem dX5_findRing_6 : decode cX5_findRing 6 = .ok (.getfield 55, 3) := by decide +kernel
theorem dX5_findRing_9 : decode cX5_findRing 9 = .ok (.if_icmp .ge 13, 3) := by decide +kernel
theorem dX5_findRing_12 : decode cX5_findRing 12 = .ok (.iload_n 1, 1) := by decide +kernel
theorem dX5_findRing_13 : decode cX5_findRing 13 = .ok (.iload_n 2, 1) := by decide +kernel
theorem dX5_findRing_14 : decode cX5_findRing 14 = .ok (.imul, 1) := by decide +kernel
theorem dX5_findRing_15 : decode cX5_findRing 15 = .ok (.istore_n 1, 1) := by decide +kernel
theorem dX5_findRing_16 : decode cX5_findRing 16 = .ok (.iinc 2 1, 3) := by decide +kernel
theorem dX5_findRing_19 : decode cX5_findRing 19 = .ok (.goto (-15), 3) := by decide +kernel
theorem dX5_findRing_22 : decode cX5_findRing 22 = .ok (.bipush (-64), 2) := by decide +kernel
theorem dX5_findRing_24 : decode cX5_findRing 24 = .ok (.istore_n 2, 1) := by decide +kernel
theorem dX5_findRing_25 : decode cX5_findRing 25 = .ok (.aload_n 0, 1) := by decide +kernel
theorem dX5_findRing_26 : decode cX5_findRing 26 = .ok (.invokevirtual 200, 3) := by decide +kernel
theorem dX5_findRing_29 : decode cX5_findRing 29 = .ok (.iconst 0, 1) := by decide +kernel
theorem dX5_findRing_30 : decode cX5_findRing 30 = .ok (.istore_n 3, 1) := by decide +kernel
theorem dX5_findRing_31 : decode cX5_findRing 31 = .ok (.iload_n 3, 1) := by decide +kernel
theorem dX5_findRing_32 : decode cX5_findRing 32 = .ok (.iload_n 1, 1) := by decide +kernel
theorem dX5_findRing_33 : decode cX5_findRing 33 = .ok (.if_icmp .ge 72, 3) := by decide +kernel
theorem dX5_findRing_36 : decode cX5_findRing 36 = .ok (.aload_n 0, 1) := by decide +kernel
theorem dX5_findRing_37 : decode cX5_findRing 37 = .ok (.iload_n 3, 1) := by decide +kernel
theorem dX5_findRing_38 : decode cX5_findRing 38 = .ok (.iload_n 1, 1) := by decide +kernel
theorem dX5_findRing_39 : decode cX5_findRing 39 = .ok (.invokevirtual 221, 3) := by decide +kernel
theorem dX5_findRing_42 : decode cX5_findRing 42 = .ok (.aload_n 0, 1) := by decide +kernel
theorem dX5_findRing_43 : decode cX5_findRing 43 = .ok (.invokevirtual 206, 3) := by decide +kernel
theorem dX5_findRing_46 : decode cX5_findRing 46 = .ok (.istore 4, 2) := by decide +kernel
theorem dX5_findRing_48 : decode cX5_findRing 48 = .ok (.iconst 0, 1) := by decide +kernel
theorem dX5_findRing_49 : decode cX5_findRing 49 = .ok (.istore 5, 2) := by decide +kernel
theorem dX5_findRing_51 : decode cX5_findRing 51 = .ok (.iload 5, 2) := by decide +kernel
theorem dX5_findRing_53 : decode cX5_findRing 53 = .ok (.aload_n 0, 1) := by decide +kernel
theorem dX5_findRing_54 : decode cX5_findRing 54 = .ok (.getfield 55, 3) := by decide +kernel
theorem dX5_findRing_57 : decode cX5_findRing 57 = .ok (.if_icmp .ge 29, 3) := by decide +kernel
theorem dX5_findRing_60 : decode cX5_findRing 60 = .ok (.iload 4, 2) := by decide +kernel
theorem dX5_findRing_62 : decode cX5_findRing 62 = .ok (.iload_n 2, 1) := by decide +kernel
theorem dX5_findRing_63 : decode cX5_findRing 63 = .ok (.if_icmp .le 23, 3) := by decide +kernel
theorem dX5_findRing_66 : decode cX5_findRing 66 = .ok (.aload_n 0, 1) := by decide +kernel
theorem dX5_findRing_67 : decode cX5_findRing 67 = .ok (.getfield 46, 3) := by decide +kernel
theorem dX5_findRing_70 : decode cX5_findRing 70 = .ok (.iload 5, 2) := by decide +kernel
theorem dX5_findRing_72 : decode cX5_findRing 72 = .ok (.aload_n 0, 1) := by decide +kernel
theorem dX5_findRing_73 : decode cX5_findRing 73 = .ok (.getfield 28, 3) := by decide +kernel
theorem dX5_findRing_76 : decode cX5_findRing 76 = .ok (.iload 5, 2) := by decide +kernel
theorem dX5_findRing_78 : decode cX5_findRing 78 = .ok (.iaload, 1) := by decide +kernel
theorem dX5_findRing_79 : decode cX5_findRing 79 = .ok (.iastore, 1) := by decide +kernel
theorem dX5_findRing_80 : decode cX5_findRing 80 = .ok (.iinc 5 1, 3) := by decide +kernel
theorem dX5_findRing_83 : decode cX5_findRing 83 = .ok (.goto (-32), 3) := by decide +kernel
theorem dX5_findRing_86 : decode cX5_findRing 86 = .ok (.iload 4, 2) := by decide +kernel
theorem dX5_findRing_88 : decode cX5_findRing 88 = .ok (.iload_n 2, 1) := by decide +kernel
theorem dX5_findRing_89 : decode cX5_findRing 89 = .ok (.if_icmp .le 8, 3) := by decide +kernel
theorem dX5_findRing_92 : decode cX5_findRing 92 = .ok (.iload 4, 2) := by decide +kernel
theorem dX5_findRing_94 : decode cX5_findRing 94 = .ok (.goto 4, 3) := by decide +kernel
theorem dX5_findRing_97 : decode cX5_findRing 97 = .ok (.iload_n 2, 1) := by decide +kernel
theorem dX5_findRing_98 : decode cX5_findRing 98 = .ok (.istore_n 2, 1) := by decide +kernel
theorem dX5_findRing_99 : decode cX5_findRing 99 = .ok (.iinc 3 1, 3) := by decide +kernel
theorem dX5_findRing_102 : decode cX5_findRing 102 = .ok (.goto (-71), 3) := by decide +kernel
theorem dX5_findRing_105 : decode cX5_findRing 105 = .ok (.aload_n 0, 1) := by decide +kernel
theorem dX5_findRing_106 : decode cX5_findRing 106 = .ok (.invokevirtual 203, 3) := by decide +kernel
theorem dX5_findRing_109 : decode cX5_findRing 109 = .ok (.iload_n 2, 1) := by decide +kernel
theorem dX5_findRing_110 : decode cX5_findRing 110 = .ok (.ireturn, 1) := by decide +kernel
theorem dX5_ring_0 : decode cX5_ring 0 = .ok (.iload_n 1, 1) := by decide +kernel
theorem dX5_ring_1 : decode cX5_ring 1 = .ok (.iconst (-1), 1) := by decide +kernel
theorem dX5_ring_2 : decode cX5_ring 2 = .ok (.if_icmp .ge 10, 3) := by decide +kernel
theorem dX5_ring_5 : decode cX5_ring 5 = .ok (.aload_n 0, 1) := by decide +kernel
theorem dX5_ring_6 : decode cX5_ring 6 = .ok (.bipush (-4), 2) := by decide +kernel
theorem dX5_ring_8 : decode cX5_ring 8 = .ok (.invokevirtual 193, 3) := by decide +kernel
theorem dX5_ring_11 : decode cX5_ring 11 = .ok (.ireturn, 1) := by decide +kernel
theorem dX5_ring_12 : decode cX5_ring 12 = .ok (.iload_n 1, 1) := by decide +kernel
theorem dX5_ring_13 : decode cX5_ring 13 = .ok (.aload_n 0, 1) := by decide +kernel
theorem dX5_ring_14 : decode cX5_ring 14 = .ok (.getfield 55, 3) := by decide +kernel
theorem dX5_ring_17 : decode cX5_ring 17 = .ok (.if_icmp .lt 6, 3) := by decide +kernel
theorem dX5_ring_20 : decode cX5_ring 20 = .ok (.bipush (-9), 2) := by decide +kernel
theorem dX5_ring_22 : decode cX5_ring 22 = .ok (.ireturn, 1) := by decide +kernel
theorem dX5_ring_23 : decode cX5_ring 23 = .ok (.aload_n 0, 1) := by decide +kernel
theorem dX5_ring_24 : decode cX5_ring 24 = .ok (.getfield 55, 3) := by decide +kernel
theorem dX5_ring_27 : decode cX5_ring 27 = .ok (.ifCond .ne 7, 3) := by decide +kernel
theorem dX5_ring_30 : decode cX5_ring 30 = .ok (.iconst 0, 1) := by decide +kernel
theorem dX5_ring_31 : decode cX5_ring 31 = .ok (.goto 7, 3) := by decide +kernel
theorem dX5_ring_34 : decode cX5_ring 34 = .ok (.aload_n 0, 1) := by decide +kernel
theorem dX5_ring_35 : decode cX5_ring 35 = .ok (.invokevirtual 224, 3) := by decide +kernel
theorem dX5_ring_38 : decode cX5_ring 38 = .ok (.istore_n 2, 1) := by decide +kernel
theorem dX5_ring_39 : decode cX5_ring 39 = .ok (.iload_n 1, 1) := by decide +kernel
theorem dX5_ring_40 : decode cX5_ring 40 = .ok (.ifCond .ge 7, 3) := by decide +kernel
theorem dX5_ring_43 : decode cX5_ring 43 = .ok (.iload_n 2, 1) := by decide +kernel
theorem dX5_ring_44 : decode cX5_ring 44 = .ok (.goto 9, 3) := by decide +kernel
theorem dX5_ring_47 : decode cX5_ring 47 = .ok (.aload_n 0, 1) := by decide +kernel
theorem dX5_ring_48 : decode cX5_ring 48 = .ok (.getfield 46, 3) := by decide +kernel
theorem dX5_ring_51 : decode cX5_ring 51 = .ok (.iload_n 1, 1) := by decide +kernel
theorem dX5_ring_52 : decode cX5_ring 52 = .ok (.iaload, 1) := by decide +kernel
theorem dX5_ring_53 : decode cX5_ring 53 = .ok (.ireturn, 1) := by decide +kernel
theorem dX5_bribe_0 : decode cX5_bribe 0 = .ok (.bipush (-9), 2) := by decide +kernel
theorem dX5_bribe_2 : decode cX5_bribe 2 = .ok (.istore_n 1, 1) := by decide +kernel
theorem dX5_bribe_3 : decode cX5_bribe 3 = .ok (.aload_n 0, 1) := by decide +kernel
theorem dX5_bribe_4 : decode cX5_bribe 4 = .ok (.invokevirtual 206, 3) := by decide +kernel
theorem dX5_bribe_7 : decode cX5_bribe 7 = .ok (.istore_n 2, 1) := by decide +kernel
theorem dX5_bribe_8 : decode cX5_bribe 8 = .ok (.iconst 0, 1) := by decide +kernel
theorem dX5_bribe_9 : decode cX5_bribe 9 = .ok (.istore_n 3, 1) := by decide +kernel
theorem dX5_bribe_10 : decode cX5_bribe 10 = .ok (.iload_n 3, 1) := by decide +kernel
theorem dX5_bribe_11 : decode cX5_bribe 11 = .ok (.aload_n 0, 1) := by decide +kernel
theorem dX5_bribe_12 : decode cX5_bribe 12 = .ok (.getfield 55, 3) := by decide +kernel
theorem dX5_bribe_15 : decode cX5_bribe 15 = .ok (.if_icmp .ge 69, 3) := by decide +kernel
theorem dX5_bribe_18 : decode cX5_bribe 18 = .ok (.iload_n 3, 1) := by decide +kernel
theorem dX5_bribe_19 : decode cX5_bribe 19 = .ok (.iconst 1, 1) := by decide +kernel
theorem dX5_bribe_20 : decode cX5_bribe 20 = .ok (.iadd, 1) := by decide +kernel
theorem dX5_bribe_21 : decode cX5_bribe 21 = .ok (.istore 4, 2) := by decide +kernel
theorem dX5_bribe_23 : decode cX5_bribe 23 = .ok (.iload 4, 2) := by decide +kernel
theorem dX5_bribe_25 : decode cX5_bribe 25 = .ok (.aload_n 0, 1) := by decide +kernel
theorem dX5_bribe_26 : decode cX5_bribe 26 = .ok (.getfield 55, 3) := by decide +kernel
theorem dX5_bribe_29 : decode cX5_bribe 29 = .ok (.if_icmp .ge 49, 3) := by decide +kernel
theorem dX5_bribe_32 : decode cX5_bribe 32 = .ok (.aload_n 0, 1) := by decide +kernel
theorem dX5_bribe_33 : decode cX5_bribe 33 = .ok (.iload_n 3, 1) := by decide +kernel
theorem dX5_bribe_34 : decode cX5_bribe 34 = .ok (.iload 4, 2) := by decide +kernel
theorem dX5_bribe_36 : decode cX5_bribe 36 = .ok (.invokevirtual 117, 3) := by decide +kernel
theorem dX5_bribe_39 : decode cX5_bribe 39 = .ok (.aload_n 0, 1) := by decide +kernel
theorem dX5_bribe_40 : decode cX5_bribe 40 = .ok (.invokevirtual 206, 3) := by decide +kernel
theorem dX5_bribe_43 : decode cX5_bribe 43 = .ok (.istore 5, 2) := by decide +kernel
theorem dX5_bribe_45 : decode cX5_bribe 45 = .ok (.aload_n 0, 1) := by decide +kernel
theorem dX5_bribe_46 : decode cX5_bribe 46 = .ok (.iload_n 3, 1) := by decide +kernel
theorem dX5_bribe_47 : decode cX5_bribe 47 = .ok (.iload 4, 2) := by decide +kernel
theorem dX5_bribe_49 : decode cX5_bribe 49 = .ok (.invokevirtual 117, 3) := by decide +kernel
theorem dX5_bribe_52 : decode cX5_bribe 52 = .ok (.iload 5, 2) := by decide +kernel
theorem dX5_bribe_54 : decode cX5_bribe 54 = .ok (.iload_n 2, 1) := by decide +kernel
theorem dX5_bribe_55 : decode cX5_bribe 55 = .ok (.if_icmp .gt 6, 3) := by decide +kernel
theorem dX5_bribe_58 : decode cX5_bribe 58 = .ok (.goto 14, 3) := by decide +kernel
theorem dX5_bribe_61 : decode cX5_bribe 61 = .ok (.bipush 10, 2) := by decide +kernel
theorem dX5_bribe_63 : decode cX5_bribe 63 = .ok (.iload_n 3, 1) := by decide +kernel
theorem dX5_bribe_64 : decode cX5_bribe 64 = .ok (.imul, 1) := by decide +kernel
theorem dX5_bribe_65 : decode cX5_bribe 65 = .ok (.iload 4, 2) := by decide +kernel
theorem dX5_bribe_67 : decode cX5_bribe 67 = .ok (.iadd, 1) := by decide +kernel
theorem dX5_bribe_68 : decode cX5_bribe 68 = .ok (.istore_n 1, 1) := by decide +kernel
theorem dX5_bribe_69 : decode cX5_bribe 69 = .ok (.iload 5, 2) := by decide +kernel
theorem dX5_bribe_71 : decode cX5_bribe 71 = .ok (.istore_n 2, 1) := by decide +kernel
theorem dX5_bribe_72 : decode cX5_bribe 72 = .ok (.iinc 4 1, 3) := by decide +kernel
theorem dX5_bribe_75 : decode cX5_bribe 75 = .ok (.goto (-52), 3) := by decide +kernel
theorem dX5_bribe_78 : decode cX5_bribe 78 = .ok (.iinc 3 1, 3) := by decide +kernel
theorem dX5_bribe_81 : decode cX5_bribe 81 = .ok (.goto (-71), 3) := by decide +kernel
theorem dX5_bribe_84 : decode cX5_bribe 84 = .ok (.iload_n 1, 1) := by decide +kernel
theorem dX5_bribe_85 : decode cX5_bribe 85 = .ok (.ireturn, 1) := by decide +kernel
theorem dX5_ownBribe_0 : decode cX5_ownBribe 0 = .ok (.aload_n 0, 1) := by decide +kernel
theorem dX5_ownBribe_1 : decode cX5_ownBribe 1 = .ok (.iload_n 1, 1) := by decide +kernel
theorem dX5_ownBribe_2 : decode cX5_ownBribe 2 = .ok (.invokevirtual 108, 3) := by decide +kernel
theorem dX5_ownBribe_5 : decode cX5_ownBribe 5 = .ok (.ifCond .ne 7, 3) := by decide +kernel
theorem dX5_ownBribe_8 : decode cX5_ownBribe 8 = .ok (.iconst (-1), 1) := by decide +kernel
theorem dX5_ownBribe_9 : decode cX5_ownBribe 9 = .ok (.goto 19, 3) := by decide +kernel
theorem dX5_ownBribe_12 : decode cX5_ownBribe 12 = .ok (.aload_n 0, 1) := by decide +kernel
theorem dX5_ownBribe_13 : decode cX5_ownBribe 13 = .ok (.getfield 25, 3) := by decide +kernel
theorem dX5_ownBribe_16 : decode cX5_ownBribe 16 = .ok (.iload_n 1, 1) := by decide +kernel
theorem dX5_ownBribe_17 : decode cX5_ownBribe 17 = .ok (.iaload, 1) := by decide +kernel
theorem dX5_ownBribe_18 : decode cX5_ownBribe 18 = .ok (.iconst 1, 1) := by decide +kernel
theorem dX5_ownBribe_19 : decode cX5_ownBribe 19 = .ok (.if_icmp .ne 8, 3) := by decide +kernel
theorem dX5_ownBribe_22 : decode cX5_ownBribe 22 = .ok (.bipush (-3), 2) := by decide +kernel
theorem dX5_ownBribe_24 : decode cX5_ownBribe 24 = .ok (.goto 4, 3) := by decide +kernel
theorem dX5_ownBribe_27 : decode cX5_ownBribe 27 = .ok (.iconst 0, 1) := by decide +kernel
theorem dX5_ownBribe_28 : decode cX5_ownBribe 28 = .ok (.istore_n 2, 1) := by decide +kernel
theorem dX5_ownBribe_29 : decode cX5_ownBribe 29 = .ok (.iload_n 2, 1) := by decide +kernel
theorem dX5_ownBribe_30 : decode cX5_ownBribe 30 = .ok (.ifCond .eq 9, 3) := by decide +kernel
theorem dX5_ownBribe_33 : decode cX5_ownBribe 33 = .ok (.aload_n 0, 1) := by decide +kernel
theorem dX5_ownBribe_34 : decode cX5_ownBribe 34 = .ok (.iload_n 2, 1) := by decide +kernel
theorem dX5_ownBribe_35 : decode cX5_ownBribe 35 = .ok (.invokevirtual 69, 3) := by decide +kernel
theorem dX5_ownBribe_38 : decode cX5_ownBribe 38 = .ok (.ireturn, 1) := by decide +kernel
theorem dX5_ownBribe_39 : decode cX5_ownBribe 39 = .ok (.bipush (-9), 2) := by decide +kernel
theorem dX5_ownBribe_41 : decode cX5_ownBribe 41 = .ok (.istore_n 3, 1) := by decide +kernel
theorem dX5_ownBribe_42 : decode cX5_ownBribe 42 = .ok (.aload_n 0, 1) := by decide +kernel
theorem dX5_ownBribe_43 : decode cX5_ownBribe 43 = .ok (.iload_n 1, 1) := by decide +kernel
theorem dX5_ownBribe_44 : decode cX5_ownBribe 44 = .ok (.invokevirtual 180, 3) := by decide +kernel
theorem dX5_ownBribe_47 : decode cX5_ownBribe 47 = .ok (.istore 4, 2) := by decide +kernel
theorem dX5_ownBribe_49 : decode cX5_ownBribe 49 = .ok (.iconst 0, 1) := by decide +kernel
theorem dX5_ownBribe_50 : decode cX5_ownBribe 50 = .ok (.istore 5, 2) := by decide +kernel
theorem dX5_ownBribe_52 : decode cX5_ownBribe 52 = .ok (.iload 5, 2) := by decide +kernel
theorem dX5_ownBribe_54 : decode cX5_ownBribe 54 = .ok (.aload_n 0, 1) := by decide +kernel
theorem dX5_ownBribe_55 : decode cX5_ownBribe 55 = .ok (.getfield 55, 3) := by decide +kernel
theorem dX5_ownBribe_58 : decode cX5_ownBribe 58 = .ok (.if_icmp .ge 56, 3) := by decide +kernel
theorem dX5_ownBribe_61 : decode cX5_ownBribe 61 = .ok (.iload 5, 2) := by decide +kernel
theorem dX5_ownBribe_63 : decode cX5_ownBribe 63 = .ok (.iload_n 1, 1) := by decide +kernel
theorem dX5_ownBribe_64 : decode cX5_ownBribe 64 = .ok (.if_icmp .ne 6, 3) := by decide +kernel
theorem dX5_ownBribe_67 : decode cX5_ownBribe 67 = .ok (.goto 41, 3) := by decide +kernel
theorem dX5_ownBribe_70 : decode cX5_ownBribe 70 = .ok (.aload_n 0, 1) := by decide +kernel
theorem dX5_ownBribe_71 : decode cX5_ownBribe 71 = .ok (.iload_n 1, 1) := by decide +kernel
theorem dX5_ownBribe_72 : decode cX5_ownBribe 72 = .ok (.iload 5, 2) := by decide +kernel
theorem dX5_ownBribe_74 : decode cX5_ownBribe 74 = .ok (.invokevirtual 117, 3) := by decide +kernel
theorem dX5_ownBribe_77 : decode cX5_ownBribe 77 = .ok (.aload_n 0, 1) := by decide +kernel
theorem dX5_ownBribe_78 : decode cX5_ownBribe 78 = .ok (.iload_n 1, 1) := by decide +kernel
theorem dX5_ownBribe_79 : decode cX5_ownBribe 79 = .ok (.invokevirtual 180, 3) := by decide +kernel
theorem dX5_ownBribe_82 : decode cX5_ownBribe 82 = .ok (.istore 6, 2) := by decide +kernel
theorem dX5_ownBribe_84 : decode cX5_ownBribe 84 = .ok (.aload_n 0, 1) := by decide +kernel
theorem dX5_ownBribe_85 : decode cX5_ownBribe 85 = .ok (.iload_n 1, 1) := by decide +kernel
theorem dX5_ownBribe_86 : decode cX5_ownBribe 86 = .ok (.iload 5, 2) := by decide +kernel
theorem dX5_ownBribe_88 : decode cX5_ownBribe 88 = .ok (.invokevirtual 117, 3) := by decide +kernel
theorem dX5_ownBribe_91 : decode cX5_ownBribe 91 = .ok (.iload 6, 2) := by decide +kernel
theorem dX5_ownBribe_93 : decode cX5_ownBribe 93 = .ok (.iload 4, 2) := by decide +kernel
theorem dX5_ownBribe_95 : decode cX5_ownBribe 95 = .ok (.if_icmp .gt 6, 3) := by decide +kernel
theorem dX5_ownBribe_98 : decode cX5_ownBribe 98 = .ok (.goto 10, 3) := by decide +kernel
theorem dX5_ownBribe_101 : decode cX5_ownBribe 101 = .ok (.iload 5, 2) := by decide +kernel
theorem dX5_ownBribe_103 : decode cX5_ownBribe 103 = .ok (.istore_n 3, 1) := by decide +kernel
theorem dX5_ownBribe_104 : decode cX5_ownBribe 104 = .ok (.iload 6, 2) := by decide +kernel
theorem dX5_ownBribe_106 : decode cX5_ownBribe 106 = .ok (.istore 4, 2) := by decide +kernel
theorem dX5_ownBribe_108 : decode cX5_ownBribe 108 = .ok (.iinc 5 1, 3) := by decide +kernel
theorem dX5_ownBribe_111 : decode cX5_ownBribe 111 = .ok (.goto (-59), 3) := by decide +kernel
theorem dX5_ownBribe_114 : decode cX5_ownBribe 114 = .ok (.iload_n 3, 1) := by decide +kernel
theorem dX5_ownBribe_115 : decode cX5_ownBribe 115 = .ok (.ireturn, 1) := by decide +kernel
theorem dX5_worthBy_0 : decode cX5_worthBy 0 = .ok (.aload_n 0, 1) := by decide +kernel
theorem dX5_worthBy_1 : decode cX5_worthBy 1 = .ok (.getfield 19, 3) := by decide +kernel
theorem dX5_worthBy_4 : decode cX5_worthBy 4 = .ok (.iload_n 1, 1) := by decide +kernel
theorem dX5_worthBy_5 : decode cX5_worthBy 5 = .ok (.iaload, 1) := by decide +kernel
theorem dX5_worthBy_6 : decode cX5_worthBy 6 = .ok (.istore_n 3, 1) := by decide +kernel
theorem dX5_worthBy_7 : decode cX5_worthBy 7 = .ok (.aload_n 0, 1) := by decide +kernel
theorem dX5_worthBy_8 : decode cX5_worthBy 8 = .ok (.getfield 19, 3) := by decide +kernel
theorem dX5_worthBy_11 : decode cX5_worthBy 11 = .ok (.iload_n 1, 1) := by decide +kernel
theorem dX5_worthBy_12 : decode cX5_worthBy 12 = .ok (.iload_n 2, 1) := by decide +kernel
theorem dX5_worthBy_13 : decode cX5_worthBy 13 = .ok (.iastore, 1) := by decide +kernel
theorem dX5_worthBy_14 : decode cX5_worthBy 14 = .ok (.aload_n 0, 1) := by decide +kernel
theorem dX5_worthBy_15 : decode cX5_worthBy 15 = .ok (.iload_n 1, 1) := by decide +kernel
theorem dX5_worthBy_16 : decode cX5_worthBy 16 = .ok (.invokevirtual 180, 3) := by decide +kernel
theorem dX5_worthBy_19 : decode cX5_worthBy 19 = .ok (.istore 4, 2) := by decide +kernel
theorem dX5_worthBy_21 : decode cX5_worthBy 21 = .ok (.aload_n 0, 1) := by decide +kernel
theorem dX5_worthBy_22 : decode cX5_worthBy 22 = .ok (.getfield 19, 3) := by decide +kernel
theorem dX5_worthBy_25 : decode cX5_worthBy 25 = .ok (.iload_n 1, 1) := by decide +kernel
theorem dX5_worthBy_26 : decode cX5_worthBy 26 = .ok (.iload_n 3, 1) := by decide +kernel
theorem dX5_worthBy_27 : decode cX5_worthBy 27 = .ok (.iastore, 1) := by decide +kernel
theorem dX5_worthBy_28 : decode cX5_worthBy 28 = .ok (.iload 4, 2) := by decide +kernel
theorem dX5_worthBy_30 : decode cX5_worthBy 30 = .ok (.ireturn, 1) := by decide +kernel
theorem dX5_page_0 : decode cX5_page 0 = .ok (.aload_n 0, 1) := by decide +kernel
theorem dX5_page_1 : decode cX5_page 1 = .ok (.iload_n 1, 1) := by decide +kernel
theorem dX5_page_2 : decode cX5_page 2 = .ok (.invokevirtual 108, 3) := by decide +kernel
theorem dX5_page_5 : decode cX5_page 5 = .ok (.ifCond .ne 7, 3) := by decide +kernel
theorem dX5_page_8 : decode cX5_page 8 = .ok (.iconst (-1), 1) := by decide +kernel
theorem dX5_page_9 : decode cX5_page 9 = .ok (.goto 33, 3) := by decide +kernel
theorem dX5_page_12 : decode cX5_page 12 = .ok (.iload_n 2, 1) := by decide +kernel
theorem dX5_page_13 : decode cX5_page 13 = .ok (.iconst 0, 1) := by decide +kernel
theorem dX5_page_14 : decode cX5_page 14 = .ok (.iconst 1, 1) := by decide +kernel
theorem dX5_page_15 : decode cX5_page 15 = .ok (.invokestatic 80, 3) := by decide +kernel
theorem dX5_page_18 : decode cX5_page 18 = .ok (.ifCond .ne 8, 3) := by decide +kernel
theorem dX5_page_21 : decode cX5_page 21 = .ok (.bipush (-2), 2) := by decide +kernel
theorem dX5_page_23 : decode cX5_page 23 = .ok (.goto 19, 3) := by decide +kernel
theorem dX5_page_26 : decode cX5_page 26 = .ok (.aload_n 0, 1) := by decide +kernel
theorem dX5_page_27 : decode cX5_page 27 = .ok (.getfield 25, 3) := by decide +kernel
theorem dX5_page_30 : decode cX5_page 30 = .ok (.iload_n 1, 1) := by decide +kernel
theorem dX5_page_31 : decode cX5_page 31 = .ok (.iaload, 1) := by decide +kernel
theorem dX5_page_32 : decode cX5_page 32 = .ok (.iconst 1, 1) := by decide +kernel
theorem dX5_page_33 : decode cX5_page 33 = .ok (.if_icmp .ne 8, 3) := by decide +kernel
theorem dX5_page_36 : decode cX5_page 36 = .ok (.bipush (-3), 2) := by decide +kernel
theorem dX5_page_38 : decode cX5_page 38 = .ok (.goto 4, 3) := by decide +kernel
theorem dX5_page_41 : decode cX5_page 41 = .ok (.iconst 0, 1) := by decide +kernel
theorem dX5_page_42 : decode cX5_page 42 = .ok (.istore_n 3, 1) := by decide +kernel
theorem dX5_page_43 : decode cX5_page 43 = .ok (.iload_n 3, 1) := by decide +kernel
theorem dX5_page_44 : decode cX5_page 44 = .ok (.ifCond .eq 9, 3) := by decide +kernel
theorem dX5_page_47 : decode cX5_page 47 = .ok (.aload_n 0, 1) := by decide +kernel
theorem dX5_page_48 : decode cX5_page 48 = .ok (.iload_n 3, 1) := by decide +kernel
theorem dX5_page_49 : decode cX5_page 49 = .ok (.invokevirtual 193, 3) := by decide +kernel
theorem dX5_page_52 : decode cX5_page 52 = .ok (.ireturn, 1) := by decide +kernel
theorem dX5_page_53 : decode cX5_page 53 = .ok (.iconst 0, 1) := by decide +kernel
theorem dX5_page_54 : decode cX5_page 54 = .ok (.istore 4, 2) := by decide +kernel
theorem dX5_page_56 : decode cX5_page 56 = .ok (.iconst 1, 1) := by decide +kernel
theorem dX5_page_57 : decode cX5_page 57 = .ok (.istore 5, 2) := by decide +kernel
theorem dX5_page_59 : decode cX5_page 59 = .ok (.iload 5, 2) := by decide +kernel
theorem dX5_page_61 : decode cX5_page 61 = .ok (.bipush 10, 2) := by decide +kernel
theorem dX5_page_63 : decode cX5_page 63 = .ok (.if_icmp .ge 35, 3) := by decide +kernel
theorem dX5_page_66 : decode cX5_page 66 = .ok (.aload_n 0, 1) := by decide +kernel
theorem dX5_page_67 : decode cX5_page 67 = .ok (.iload_n 1, 1) := by decide +kernel
theorem dX5_page_68 : decode cX5_page 68 = .ok (.iload 5, 2) := by decide +kernel
theorem dX5_page_70 : decode cX5_page 70 = .ok (.invokevirtual 227, 3) := by decide +kernel
theorem dX5_page_73 : decode cX5_page 73 = .ok (.aload_n 0, 1) := by decide +kernel
theorem dX5_page_74 : decode cX5_page 74 = .ok (.iload_n 1, 1) := by decide +kernel
theorem dX5_page_75 : decode cX5_page 75 = .ok (.iload 4, 2) := by decide +kernel
theorem dX5_page_77 : decode cX5_page 77 = .ok (.invokevirtual 227, 3) := by decide +kernel
theorem dX5_page_80 : decode cX5_page 80 = .ok (.if_icmp .le 8, 3) := by decide +kernel
theorem dX5_page_83 : decode cX5_page 83 = .ok (.iload 5, 2) := by decide +kernel
theorem dX5_page_85 : decode cX5_page 85 = .ok (.goto 5, 3) := by decide +kernel
theorem dX5_page_88 : decode cX5_page 88 = .ok (.iload 4, 2) := by decide +kernel
theorem dX5_page_90 : decode cX5_page 90 = .ok (.istore 4, 2) := by decide +kernel
theorem dX5_page_92 : decode cX5_page 92 = .ok (.iinc 5 1, 3) := by decide +kernel
theorem dX5_page_95 : decode cX5_page 95 = .ok (.goto (-36), 3) := by decide +kernel
theorem dX5_page_98 : decode cX5_page 98 = .ok (.iload_n 2, 1) := by decide +kernel
theorem dX5_page_99 : decode cX5_page 99 = .ok (.ifCond .ne 8, 3) := by decide +kernel
theorem dX5_page_102 : decode cX5_page 102 = .ok (.iload 4, 2) := by decide +kernel
theorem dX5_page_104 : decode cX5_page 104 = .ok (.goto 10, 3) := by decide +kernel
theorem dX5_page_107 : decode cX5_page 107 = .ok (.aload_n 0, 1) := by decide +kernel
theorem dX5_page_108 : decode cX5_page 108 = .ok (.iload_n 1, 1) := by decide +kernel
theorem dX5_page_109 : decode cX5_page 109 = .ok (.iload 4, 2) := by decide +kernel
theorem dX5_page_111 : decode cX5_page 111 = .ok (.invokevirtual 227, 3) := by decide +kernel
theorem dX5_page_114 : decode cX5_page 114 = .ok (.ireturn, 1) := by decide +kernel
theorem dX5_worthEnded_0 : decode cX5_worthEnded 0 = .ok (.aload_n 0, 1) := by decide +kernel
theorem dX5_worthEnded_1 : decode cX5_worthEnded 1 = .ok (.iload_n 1, 1) := by decide +kernel
theorem dX5_worthEnded_2 : decode cX5_worthEnded 2 = .ok (.invokevirtual 165, 3) := by decide +kernel
theorem dX5_worthEnded_5 : decode cX5_worthEnded 5 = .ok (.aload_n 0, 1) := by decide +kernel
theorem dX5_worthEnded_6 : decode cX5_worthEnded 6 = .ok (.iload_n 2, 1) := by decide +kernel
theorem dX5_worthEnded_7 : decode cX5_worthEnded 7 = .ok (.aload_n 0, 1) := by decide +kernel
theorem dX5_worthEnded_8 : decode cX5_worthEnded 8 = .ok (.iload_n 1, 1) := by decide +kernel
theorem dX5_worthEnded_9 : decode cX5_worthEnded 9 = .ok (.invokevirtual 165, 3) := by decide +kernel
theorem dX5_worthEnded_12 : decode cX5_worthEnded 12 = .ok (.invokevirtual 168, 3) := by decide +kernel
theorem dX5_worthEnded_15 : decode cX5_worthEnded 15 = .ok (.invokestatic 174, 3) := by decide +kernel
theorem dX5_worthEnded_18 : decode cX5_worthEnded 18 = .ok (.ireturn, 1) := by decide +kernel
theorem dX5_ender_0 : decode cX5_ender 0 = .ok (.aload_n 0, 1) := by decide +kernel
theorem dX5_ender_1 : decode cX5_ender 1 = .ok (.iload_n 1, 1) := by decide +kernel
theorem dX5_ender_2 : decode cX5_ender 2 = .ok (.invokevirtual 108, 3) := by decide +kernel
theorem dX5_ender_5 : decode cX5_ender 5 = .ok (.ifCond .ne 7, 3) := by decide +kernel
theorem dX5_ender_8 : decode cX5_ender 8 = .ok (.iconst (-1), 1) := by decide +kernel
theorem dX5_ender_9 : decode cX5_ender 9 = .ok (.goto 33, 3) := by decide +kernel
theorem dX5_ender_12 : decode cX5_ender 12 = .ok (.iload_n 2, 1) := by decide +kernel
theorem dX5_ender_13 : decode cX5_ender 13 = .ok (.iconst 0, 1) := by decide +kernel
theorem dX5_ender_14 : decode cX5_ender 14 = .ok (.iconst 1, 1) := by decide +kernel
theorem dX5_ender_15 : decode cX5_ender 15 = .ok (.invokestatic 80, 3) := by decide +kernel
theorem dX5_ender_18 : decode cX5_ender 18 = .ok (.ifCond .ne 8, 3) := by decide +kernel
theorem dX5_ender_21 : decode cX5_ender 21 = .ok (.bipush (-2), 2) := by decide +kernel
theorem dX5_ender_23 : decode cX5_ender 23 = .ok (.goto 19, 3) := by decide +kernel
theorem dX5_ender_26 : decode cX5_ender 26 = .ok (.aload_n 0, 1) := by decide +kernel
theorem dX5_ender_27 : decode cX5_ender 27 = .ok (.getfield 25, 3) := by decide +kernel
theorem dX5_ender_30 : decode cX5_ender 30 = .ok (.iload_n 1, 1) := by decide +kernel
theorem dX5_ender_31 : decode cX5_ender 31 = .ok (.iaload, 1) := by decide +kernel
theorem dX5_ender_32 : decode cX5_ender 32 = .ok (.iconst 1, 1) := by decide +kernel
theorem dX5_ender_33 : decode cX5_ender 33 = .ok (.if_icmp .ne 8, 3) := by decide +kernel
theorem dX5_ender_36 : decode cX5_ender 36 = .ok (.bipush (-3), 2) := by decide +kernel
theorem dX5_ender_38 : decode cX5_ender 38 = .ok (.goto 4, 3) := by decide +kernel
theorem dX5_ender_41 : decode cX5_ender 41 = .ok (.iconst 0, 1) := by decide +kernel
theorem dX5_ender_42 : decode cX5_ender 42 = .ok (.istore_n 3, 1) := by decide +kernel
theorem dX5_ender_43 : decode cX5_ender 43 = .ok (.iload_n 3, 1) := by decide +kernel
theorem dX5_ender_44 : decode cX5_ender 44 = .ok (.ifCond .eq 9, 3) := by decide +kernel
theorem dX5_ender_47 : decode cX5_ender 47 = .ok (.aload_n 0, 1) := by decide +kernel
theorem dX5_ender_48 : decode cX5_ender 48 = .ok (.iload_n 3, 1) := by decide +kernel
theorem dX5_ender_49 : decode cX5_ender 49 = .ok (.invokevirtual 193, 3) := by decide +kernel
theorem dX5_ender_52 : decode cX5_ender 52 = .ok (.ireturn, 1) := by decide +kernel
theorem dX5_ender_53 : decode cX5_ender 53 = .ok (.bipush (-9), 2) := by decide +kernel
theorem dX5_ender_55 : decode cX5_ender 55 = .ok (.istore 4, 2) := by decide +kernel
theorem dX5_ender_57 : decode cX5_ender 57 = .ok (.iconst 0, 1) := by decide +kernel
theorem dX5_ender_58 : decode cX5_ender 58 = .ok (.istore 5, 2) := by decide +kernel
theorem dX5_ender_60 : decode cX5_ender 60 = .ok (.iload 5, 2) := by decide +kernel
theorem dX5_ender_62 : decode cX5_ender 62 = .ok (.aload_n 0, 1) := by decide +kernel
theorem dX5_ender_63 : decode cX5_ender 63 = .ok (.getfield 55, 3) := by decide +kernel
theorem dX5_ender_66 : decode cX5_ender 66 = .ok (.if_icmp .ge 41, 3) := by decide +kernel
theorem dX5_ender_69 : decode cX5_ender 69 = .ok (.iload 5, 2) := by decide +kernel
theorem dX5_ender_71 : decode cX5_ender 71 = .ok (.iload_n 1, 1) := by decide +kernel
theorem dX5_ender_72 : decode cX5_ender 72 = .ok (.if_icmp .eq 29, 3) := by decide +kernel
theorem dX5_ender_75 : decode cX5_ender 75 = .ok (.iload 4, 2) := by decide +kernel
theorem dX5_ender_77 : decode cX5_ender 77 = .ok (.ifCond .lt 20, 3) := by decide +kernel
theorem dX5_ender_80 : decode cX5_ender 80 = .ok (.aload_n 0, 1) := by decide +kernel
theorem dX5_ender_81 : decode cX5_ender 81 = .ok (.iload_n 1, 1) := by decide +kernel
theorem dX5_ender_82 : decode cX5_ender 82 = .ok (.iload 5, 2) := by decide +kernel
theorem dX5_ender_84 : decode cX5_ender 84 = .ok (.invokevirtual 230, 3) := by decide +kernel
theorem dX5_ender_87 : decode cX5_ender 87 = .ok (.aload_n 0, 1) := by decide +kernel
theorem dX5_ender_88 : decode cX5_ender 88 = .ok (.iload_n 1, 1) := by decide +kernel
theorem dX5_ender_89 : decode cX5_ender 89 = .ok (.iload 4, 2) := by decide +kernel
theorem dX5_ender_91 : decode cX5_ender 91 = .ok (.invokevirtual 230, 3) := by decide +kernel
theorem dX5_ender_94 : decode cX5_ender 94 = .ok (.if_icmp .le 7, 3) := by decide +kernel
theorem dX5_ender_97 : decode cX5_ender 97 = .ok (.iload 5, 2) := by decide +kernel
theorem dX5_ender_99 : decode cX5_ender 99 = .ok (.istore 4, 2) := by decide +kernel
theorem dX5_ender_101 : decode cX5_ender 101 = .ok (.iinc 5 1, 3) := by decide +kernel
theorem dX5_ender_104 : decode cX5_ender 104 = .ok (.goto (-44), 3) := by decide +kernel
theorem dX5_ender_107 : decode cX5_ender 107 = .ok (.iload_n 2, 1) := by decide +kernel
theorem dX5_ender_108 : decode cX5_ender 108 = .ok (.ifCond .ne 8, 3) := by decide +kernel
theorem dX5_ender_111 : decode cX5_ender 111 = .ok (.iload 4, 2) := by decide +kernel
theorem dX5_ender_113 : decode cX5_ender 113 = .ok (.goto 19, 3) := by decide +kernel
theorem dX5_ender_116 : decode cX5_ender 116 = .ok (.iload 4, 2) := by decide +kernel
theorem dX5_ender_118 : decode cX5_ender 118 = .ok (.ifCond .ge 7, 3) := by decide +kernel
theorem dX5_ender_121 : decode cX5_ender 121 = .ok (.iconst 0, 1) := by decide +kernel
theorem dX5_ender_122 : decode cX5_ender 122 = .ok (.goto 10, 3) := by decide +kernel
theorem dX5_ender_125 : decode cX5_ender 125 = .ok (.aload_n 0, 1) := by decide +kernel
theorem dX5_ender_126 : decode cX5_ender 126 = .ok (.iload_n 1, 1) := by decide +kernel
theorem dX5_ender_127 : decode cX5_ender 127 = .ok (.iload 4, 2) := by decide +kernel
theorem dX5_ender_129 : decode cX5_ender 129 = .ok (.invokevirtual 230, 3) := by decide +kernel
theorem dX5_ender_132 : decode cX5_ender 132 = .ok (.ireturn, 1) := by decide +kernel
theorem dX5_hush_0 : decode cX5_hush 0 = .ok (.bipush (-9), 2) := by decide +kernel
theorem dX5_hush_2 : decode cX5_hush 2 = .ok (.istore_n 1, 1) := by decide +kernel
theorem dX5_hush_3 : decode cX5_hush 3 = .ok (.aload_n 0, 1) := by decide +kernel
theorem dX5_hush_4 : decode cX5_hush 4 = .ok (.invokevirtual 206, 3) := by decide +kernel
theorem dX5_hush_7 : decode cX5_hush 7 = .ok (.istore_n 2, 1) := by decide +kernel
theorem dX5_hush_8 : decode cX5_hush 8 = .ok (.iconst 0, 1) := by decide +kernel
theorem dX5_hush_9 : decode cX5_hush 9 = .ok (.istore_n 3, 1) := by decide +kernel
theorem dX5_hush_10 : decode cX5_hush 10 = .ok (.iload_n 3, 1) := by decide +kernel
theorem dX5_hush_11 : decode cX5_hush 11 = .ok (.aload_n 0, 1) := by decide +kernel
theorem dX5_hush_12 : decode cX5_hush 12 = .ok (.getfield 55, 3) := by decide +kernel
theorem dX5_hush_15 : decode cX5_hush 15 = .ok (.if_icmp .ge 56, 3) := by decide +kernel
theorem dX5_hush_18 : decode cX5_hush 18 = .ok (.aload_n 0, 1) := by decide +kernel
theorem dX5_hush_19 : decode cX5_hush 19 = .ok (.getfield 25, 3) := by decide +kernel
theorem dX5_hush_22 : decode cX5_hush 22 = .ok (.iload_n 3, 1) := by decide +kernel
theorem dX5_hush_23 : decode cX5_hush 23 = .ok (.iaload, 1) := by decide +kernel
theorem dX5_hush_24 : decode cX5_hush 24 = .ok (.iconst 1, 1) := by decide +kernel
theorem dX5_hush_25 : decode cX5_hush 25 = .ok (.if_icmp .ne 6, 3) := by decide +kernel
theorem dX5_hush_28 : decode cX5_hush 28 = .ok (.goto 37, 3) := by decide +kernel
theorem dX5_hush_31 : decode cX5_hush 31 = .ok (.aload_n 0, 1) := by decide +kernel
theorem dX5_hush_32 : decode cX5_hush 32 = .ok (.getfield 25, 3) := by decide +kernel
theorem dX5_hush_35 : decode cX5_hush 35 = .ok (.iload_n 3, 1) := by decide +kernel
theorem dX5_hush_36 : decode cX5_hush 36 = .ok (.iconst 1, 1) := by decide +kernel
theorem dX5_hush_37 : decode cX5_hush 37 = .ok (.iastore, 1) := by decide +kernel
theorem dX5_hush_38 : decode cX5_hush 38 = .ok (.aload_n 0, 1) := by decide +kernel
theorem dX5_hush_39 : decode cX5_hush 39 = .ok (.invokevirtual 206, 3) := by decide +kernel
theorem dX5_hush_42 : decode cX5_hush 42 = .ok (.istore 4, 2) := by decide +kernel
theorem dX5_hush_44 : decode cX5_hush 44 = .ok (.aload_n 0, 1) := by decide +kernel
theorem dX5_hush_45 : decode cX5_hush 45 = .ok (.getfield 25, 3) := by decide +kernel
theorem dX5_hush_48 : decode cX5_hush 48 = .ok (.iload_n 3, 1) := by decide +kernel
theorem dX5_hush_49 : decode cX5_hush 49 = .ok (.iconst 0, 1) := by decide +kernel
theorem dX5_hush_50 : decode cX5_hush 50 = .ok (.iastore, 1) := by decide +kernel
theorem dX5_hush_51 : decode cX5_hush 51 = .ok (.iload 4, 2) := by decide +kernel
theorem dX5_hush_53 : decode cX5_hush 53 = .ok (.iload_n 2, 1) := by decide +kernel
theorem dX5_hush_54 : decode cX5_hush 54 = .ok (.if_icmp .gt 6, 3) := by decide +kernel
theorem dX5_hush_57 : decode cX5_hush 57 = .ok (.goto 8, 3) := by decide +kernel
theorem dX5_hush_60 : decode cX5_hush 60 = .ok (.iload_n 3, 1) := by decide +kernel
theorem dX5_hush_61 : decode cX5_hush 61 = .ok (.istore_n 1, 1) := by decide +kernel
theorem dX5_hush_62 : decode cX5_hush 62 = .ok (.iload 4, 2) := by decide +kernel
theorem dX5_hush_64 : decode cX5_hush 64 = .ok (.istore_n 2, 1) := by decide +kernel
theorem dX5_hush_65 : decode cX5_hush 65 = .ok (.iinc 3 1, 3) := by decide +kernel
theorem dX5_hush_68 : decode cX5_hush 68 = .ok (.goto (-58), 3) := by decide +kernel
theorem dX5_hush_71 : decode cX5_hush 71 = .ok (.iload_n 1, 1) := by decide +kernel
theorem dX5_hush_72 : decode cX5_hush 72 = .ok (.ireturn, 1) := by decide +kernel
theorem dX5_moves_0 : decode cX5_moves 0 = .ok (.aload_n 0, 1) := by decide +kernel
theorem dX5_moves_1 : decode cX5_moves 1 = .ok (.iload_n 1, 1) := by decide +kernel
theorem dX5_moves_2 : decode cX5_moves 2 = .ok (.invokevirtual 108, 3) := by decide +kernel
theorem dX5_moves_5 : decode cX5_moves 5 = .ok (.ifCond .eq 11, 3) := by decide +kernel
theorem dX5_moves_8 : decode cX5_moves 8 = .ok (.aload_n 0, 1) := by decide +kernel
theorem dX5_moves_9 : decode cX5_moves 9 = .ok (.iload_n 1, 1) := by decide +kernel
theorem dX5_moves_10 : decode cX5_moves 10 = .ok (.invokevirtual 159, 3) := by decide +kernel
theorem dX5_moves_13 : decode cX5_moves 13 = .ok (.goto 8, 3) := by decide +kernel
theorem dX5_moves_16 : decode cX5_moves 16 = .ok (.aload_n 0, 1) := by decide +kernel
theorem dX5_moves_17 : decode cX5_moves 17 = .ok (.iconst (-1), 1) := by decide +kernel
theorem dX5_moves_18 : decode cX5_moves 18 = .ok (.invokevirtual 69, 3) := by decide +kernel
theorem dX5_moves_21 : decode cX5_moves 21 = .ok (.ireturn, 1) := by decide +kernel
theorem dX5_areMutual_0 : decode cX5_areMutual 0 = .ok (.aload_n 0, 1) := by decide +kernel
theorem dX5_areMutual_1 : decode cX5_areMutual 1 = .ok (.getfield 25, 3) := by decide +kernel
theorem dX5_areMutual_4 : decode cX5_areMutual 4 = .ok (.iload_n 1, 1) := by decide +kernel
theorem dX5_areMutual_5 : decode cX5_areMutual 5 = .ok (.iaload, 1) := by decide +kernel
theorem dX5_areMutual_6 : decode cX5_areMutual 6 = .ok (.ifCond .ne 34, 3) := by decide +kernel
theorem dX5_areMutual_9 : decode cX5_areMutual 9 = .ok (.aload_n 0, 1) := by decide +kernel
theorem dX5_areMutual_10 : decode cX5_areMutual 10 = .ok (.getfield 25, 3) := by decide +kernel
theorem dX5_areMutual_13 : decode cX5_areMutual 13 = .ok (.iload_n 2, 1) := by decide +kernel
theorem dX5_areMutual_14 : decode cX5_areMutual 14 = .ok (.iaload, 1) := by decide +kernel
theorem dX5_areMutual_15 : decode cX5_areMutual 15 = .ok (.ifCond .ne 25, 3) := by decide +kernel
theorem dX5_areMutual_18 : decode cX5_areMutual 18 = .ok (.aload_n 0, 1) := by decide +kernel
theorem dX5_areMutual_19 : decode cX5_areMutual 19 = .ok (.iload_n 1, 1) := by decide +kernel
theorem dX5_areMutual_20 : decode cX5_areMutual 20 = .ok (.invokevirtual 162, 3) := by decide +kernel
theorem dX5_areMutual_23 : decode cX5_areMutual 23 = .ok (.iload_n 2, 1) := by decide +kernel
theorem dX5_areMutual_24 : decode cX5_areMutual 24 = .ok (.if_icmp .ne 16, 3) := by decide +kernel
theorem dX5_areMutual_27 : decode cX5_areMutual 27 = .ok (.aload_n 0, 1) := by decide +kernel
theorem dX5_areMutual_28 : decode cX5_areMutual 28 = .ok (.iload_n 2, 1) := by decide +kernel
theorem dX5_areMutual_29 : decode cX5_areMutual 29 = .ok (.invokevirtual 162, 3) := by decide +kernel
theorem dX5_areMutual_32 : decode cX5_areMutual 32 = .ok (.iload_n 1, 1) := by decide +kernel
theorem dX5_areMutual_33 : decode cX5_areMutual 33 = .ok (.if_icmp .ne 7, 3) := by decide +kernel
theorem dX5_areMutual_36 : decode cX5_areMutual 36 = .ok (.iconst 1, 1) := by decide +kernel
theorem dX5_areMutual_37 : decode cX5_areMutual 37 = .ok (.goto 4, 3) := by decide +kernel
theorem dX5_areMutual_40 : decode cX5_areMutual 40 = .ok (.iconst 0, 1) := by decide +kernel
theorem dX5_areMutual_41 : decode cX5_areMutual 41 = .ok (.ireturn, 1) := by decide +kernel
theorem dX5_mutual_0 : decode cX5_mutual 0 = .ok (.iconst 0, 1) := by decide +kernel
theorem dX5_mutual_1 : decode cX5_mutual 1 = .ok (.istore_n 1, 1) := by decide +kernel
theorem dX5_mutual_2 : decode cX5_mutual 2 = .ok (.iconst 0, 1) := by decide +kernel
theorem dX5_mutual_3 : decode cX5_mutual 3 = .ok (.istore_n 2, 1) := by decide +kernel
theorem dX5_mutual_4 : decode cX5_mutual 4 = .ok (.iload_n 2, 1) := by decide +kernel
theorem dX5_mutual_5 : decode cX5_mutual 5 = .ok (.aload_n 0, 1) := by decide +kernel
theorem dX5_mutual_6 : decode cX5_mutual 6 = .ok (.getfield 55, 3) := by decide +kernel
theorem dX5_mutual_9 : decode cX5_mutual 9 = .ok (.if_icmp .ge 44, 3) := by decide +kernel
theorem dX5_mutual_12 : decode cX5_mutual 12 = .ok (.iload_n 2, 1) := by decide +kernel
theorem dX5_mutual_13 : decode cX5_mutual 13 = .ok (.iconst 1, 1) := by decide +kernel
theorem dX5_mutual_14 : decode cX5_mutual 14 = .ok (.iadd, 1) := by decide +kernel
theorem dX5_mutual_15 : decode cX5_mutual 15 = .ok (.istore_n 3, 1) := by decide +kernel
theorem dX5_mutual_16 : decode cX5_mutual 16 = .ok (.iload_n 3, 1) := by decide +kernel
theorem dX5_mutual_17 : decode cX5_mutual 17 = .ok (.aload_n 0, 1) := by decide +kernel
theorem dX5_mutual_18 : decode cX5_mutual 18 = .ok (.getfield 55, 3) := by decide +kernel
theorem dX5_mutual_21 : decode cX5_mutual 21 = .ok (.if_icmp .ge 26, 3) := by decide +kernel
theorem dX5_mutual_24 : decode cX5_mutual 24 = .ok (.iload_n 1, 1) := by decide +kernel
theorem dX5_mutual_25 : decode cX5_mutual 25 = .ok (.aload_n 0, 1) := by decide +kernel
theorem dX5_mutual_26 : decode cX5_mutual 26 = .ok (.iload_n 2, 1) := by decide +kernel
theorem dX5_mutual_27 : decode cX5_mutual 27 = .ok (.iload_n 3, 1) := by decide +kernel
theorem dX5_mutual_28 : decode cX5_mutual 28 = .ok (.invokevirtual 233, 3) := by decide +kernel
theorem dX5_mutual_31 : decode cX5_mutual 31 = .ok (.ifCond .eq 7, 3) := by decide +kernel
theorem dX5_mutual_34 : decode cX5_mutual 34 = .ok (.iconst 1, 1) := by decide +kernel
theorem dX5_mutual_35 : decode cX5_mutual 35 = .ok (.goto 4, 3) := by decide +kernel
theorem dX5_mutual_38 : decode cX5_mutual 38 = .ok (.iconst 0, 1) := by decide +kernel
theorem dX5_mutual_39 : decode cX5_mutual 39 = .ok (.iadd, 1) := by decide +kernel
theorem dX5_mutual_40 : decode cX5_mutual 40 = .ok (.istore_n 1, 1) := by decide +kernel
theorem dX5_mutual_41 : decode cX5_mutual 41 = .ok (.iinc 3 1, 3) := by decide +kernel
theorem dX5_mutual_44 : decode cX5_mutual 44 = .ok (.goto (-28), 3) := by decide +kernel
theorem dX5_mutual_47 : decode cX5_mutual 47 = .ok (.iinc 2 1, 3) := by decide +kernel
theorem dX5_mutual_50 : decode cX5_mutual 50 = .ok (.goto (-46), 3) := by decide +kernel
theorem dX5_mutual_53 : decode cX5_mutual 53 = .ok (.iload_n 1, 1) := by decide +kernel
theorem dX5_mutual_54 : decode cX5_mutual 54 = .ok (.ireturn, 1) := by decide +kernel
theorem dX5_chain_0 : decode cX5_chain 0 = .ok (.aload_n 0, 1) := by decide +kernel
theorem dX5_chain_1 : decode cX5_chain 1 = .ok (.iload_n 1, 1) := by decide +kernel
theorem dX5_chain_2 : decode cX5_chain 2 = .ok (.invokevirtual 108, 3) := by decide +kernel
theorem dX5_chain_5 : decode cX5_chain 5 = .ok (.ifCond .ne 9, 3) := by decide +kernel
theorem dX5_chain_8 : decode cX5_chain 8 = .ok (.aload_n 0, 1) := by decide +kernel
theorem dX5_chain_9 : decode cX5_chain 9 = .ok (.iconst (-1), 1) := by decide +kernel
theorem dX5_chain_10 : decode cX5_chain 10 = .ok (.invokevirtual 69, 3) := by decide +kernel
theorem dX5_chain_13 : decode cX5_chain 13 = .ok (.ireturn, 1) := by decide +kernel
theorem dX5_chain_14 : decode cX5_chain 14 = .ok (.aload_n 0, 1) := by decide +kernel
theorem dX5_chain_15 : decode cX5_chain 15 = .ok (.iload_n 1, 1) := by decide +kernel
theorem dX5_chain_16 : decode cX5_chain 16 = .ok (.invokevirtual 177, 3) := by decide +kernel
theorem dX5_chain_19 : decode cX5_chain 19 = .ok (.ifCond .ne 5, 3) := by decide +kernel
theorem dX5_chain_22 : decode cX5_chain 22 = .ok (.iconst 0, 1) := by decide +kernel
theorem dX5_chain_23 : decode cX5_chain 23 = .ok (.ireturn, 1) := by decide +kernel
theorem dX5_chain_24 : decode cX5_chain 24 = .ok (.iconst 0, 1) := by decide +kernel
theorem dX5_chain_25 : decode cX5_chain 25 = .ok (.istore_n 2, 1) := by decide +kernel
theorem dX5_chain_26 : decode cX5_chain 26 = .ok (.iload_n 1, 1) := by decide +kernel
theorem dX5_chain_27 : decode cX5_chain 27 = .ok (.istore_n 3, 1) := by decide +kernel
theorem dX5_chain_28 : decode cX5_chain 28 = .ok (.iload_n 2, 1) := by decide +kernel
theorem dX5_chain_29 : decode cX5_chain 29 = .ok (.iload_n 3, 1) := by decide +kernel
theorem dX5_chain_30 : decode cX5_chain 30 = .ok (.invokestatic 218, 3) := by decide +kernel
theorem dX5_chain_33 : decode cX5_chain 33 = .ok (.ifCond .ne 18, 3) := by decide +kernel
theorem dX5_chain_36 : decode cX5_chain 36 = .ok (.iload_n 2, 1) := by decide +kernel
theorem dX5_chain_37 : decode cX5_chain 37 = .ok (.iconst 1, 1) := by decide +kernel
theorem dX5_chain_38 : decode cX5_chain 38 = .ok (.iload_n 3, 1) := by decide +kernel
theorem dX5_chain_39 : decode cX5_chain 39 = .ok (.ishl, 1) := by decide +kernel
theorem dX5_chain_40 : decode cX5_chain 40 = .ok (.ior, 1) := by decide +kernel
theorem dX5_chain_41 : decode cX5_chain 41 = .ok (.istore_n 2, 1) := by decide +kernel
theorem dX5_chain_42 : decode cX5_chain 42 = .ok (.aload_n 0, 1) := by decide +kernel
theorem dX5_chain_43 : decode cX5_chain 43 = .ok (.iload_n 3, 1) := by decide +kernel
theorem dX5_chain_44 : decode cX5_chain 44 = .ok (.invokevirtual 162, 3) := by decide +kernel
theorem dX5_chain_47 : decode cX5_chain 47 = .ok (.istore_n 3, 1) := by decide +kernel
theorem dX5_chain_48 : decode cX5_chain 48 = .ok (.goto (-20), 3) := by decide +kernel
theorem dX5_chain_51 : decode cX5_chain 51 = .ok (.iload_n 2, 1) := by decide +kernel
theorem dX5_chain_52 : decode cX5_chain 52 = .ok (.invokestatic 236, 3) := by decide +kernel
theorem dX5_chain_55 : decode cX5_chain 55 = .ok (.ireturn, 1) := by decide +kernel
theorem dX5_same_0 : decode cX5_same 0 = .ok (.iload_n 1, 1) := by decide +kernel
theorem dX5_same_1 : decode cX5_same 1 = .ok (.iconst 0, 1) := by decide +kernel
theorem dX5_same_2 : decode cX5_same 2 = .ok (.iconst 1, 1) := by decide +kernel
theorem dX5_same_3 : decode cX5_same 3 = .ok (.invokestatic 80, 3) := by decide +kernel
theorem dX5_same_6 : decode cX5_same 6 = .ok (.ifCond .ne 10, 3) := by decide +kernel
theorem dX5_same_9 : decode cX5_same 9 = .ok (.aload_n 0, 1) := by decide +kernel
theorem dX5_same_10 : decode cX5_same 10 = .ok (.bipush (-2), 2) := by decide +kernel
theorem dX5_same_12 : decode cX5_same 12 = .ok (.invokevirtual 69, 3) := by decide +kernel
theorem dX5_same_15 : decode cX5_same 15 = .ok (.ireturn, 1) := by decide +kernel
theorem dX5_same_16 : decode cX5_same 16 = .ok (.iconst 0, 1) := by decide +kernel
theorem dX5_same_17 : decode cX5_same 17 = .ok (.istore_n 2, 1) := by decide +kernel
theorem dX5_same_18 : decode cX5_same 18 = .ok (.bipush (-9), 2) := by decide +kernel
theorem dX5_same_20 : decode cX5_same 20 = .ok (.istore_n 3, 1) := by decide +kernel
theorem dX5_same_21 : decode cX5_same 21 = .ok (.iconst 0, 1) := by decide +kernel
theorem dX5_same_22 : decode cX5_same 22 = .ok (.istore 4, 2) := by decide +kernel
theorem dX5_same_24 : decode cX5_same 24 = .ok (.iload 4, 2) := by decide +kernel
theorem dX5_same_26 : decode cX5_same 26 = .ok (.aload_n 0, 1) := by decide +kernel
theorem dX5_same_27 : decode cX5_same 27 = .ok (.getfield 55, 3) := by decide +kernel
theorem dX5_same_30 : decode cX5_same 30 = .ok (.if_icmp .ge 86, 3) := by decide +kernel
theorem dX5_same_33 : decode cX5_same 33 = .ok (.iload 4, 2) := by decide +kernel
theorem dX5_same_35 : decode cX5_same 35 = .ok (.iconst 1, 1) := by decide +kernel
theorem dX5_same_36 : decode cX5_same 36 = .ok (.iadd, 1) := by decide +kernel
theorem dX5_same_37 : decode cX5_same 37 = .ok (.istore 5, 2) := by decide +kernel
theorem dX5_same_39 : decode cX5_same 39 = .ok (.iload 5, 2) := by decide +kernel
theorem dX5_same_41 : decode cX5_same 41 = .ok (.aload_n 0, 1) := by decide +kernel
theorem dX5_same_42 : decode cX5_same 42 = .ok (.getfield 55, 3) := by decide +kernel
theorem dX5_same_45 : decode cX5_same 45 = .ok (.if_icmp .ge 65, 3) := by decide +kernel
theorem dX5_same_48 : decode cX5_same 48 = .ok (.aload_n 0, 1) := by decide +kernel
theorem dX5_same_49 : decode cX5_same 49 = .ok (.getfield 25, 3) := by decide +kernel
theorem dX5_same_52 : decode cX5_same 52 = .ok (.iload 4, 2) := by decide +kernel
theorem dX5_same_54 : decode cX5_same 54 = .ok (.iaload, 1) := by decide +kernel
theorem dX5_same_55 : decode cX5_same 55 = .ok (.aload_n 0, 1) := by decide +kernel
theorem dX5_same_56 : decode cX5_same 56 = .ok (.getfield 25, 3) := by decide +kernel
theorem dX5_same_59 : decode cX5_same 59 = .ok (.iload 5, 2) := by decide +kernel
theorem dX5_same_61 : decode cX5_same 61 = .ok (.iaload, 1) := by decide +kernel
theorem dX5_same_62 : decode cX5_same 62 = .ok (.iadd, 1) := by decide +kernel
theorem dX5_same_63 : decode cX5_same 63 = .ok (.ifCond .gt 41, 3) := by decide +kernel
theorem dX5_same_66 : decode cX5_same 66 = .ok (.aload_n 0, 1) := by decide +kernel
theorem dX5_same_67 : decode cX5_same 67 = .ok (.iload 4, 2) := by decide +kernel
theorem dX5_same_69 : decode cX5_same 69 = .ok (.invokevirtual 165, 3) := by decide +kernel
theorem dX5_same_72 : decode cX5_same 72 = .ok (.aload_n 0, 1) := by decide +kernel
theorem dX5_same_73 : decode cX5_same 73 = .ok (.iload 5, 2) := by decide +kernel
theorem dX5_same_75 : decode cX5_same 75 = .ok (.invokevirtual 165, 3) := by decide +kernel
theorem dX5_same_78 : decode cX5_same 78 = .ok (.if_icmp .eq 6, 3) := by decide +kernel
theorem dX5_same_81 : decode cX5_same 81 = .ok (.goto 23, 3) := by decide +kernel
theorem dX5_same_84 : decode cX5_same 84 = .ok (.iinc 2 1, 3) := by decide +kernel
theorem dX5_same_87 : decode cX5_same 87 = .ok (.iload_n 3, 1) := by decide +kernel
theorem dX5_same_88 : decode cX5_same 88 = .ok (.ifCond .ge 14, 3) := by decide +kernel
theorem dX5_same_91 : decode cX5_same 91 = .ok (.bipush 10, 2) := by decide +kernel
theorem dX5_same_93 : decode cX5_same 93 = .ok (.iload 4, 2) := by decide +kernel
theorem dX5_same_95 : decode cX5_same 95 = .ok (.imul, 1) := by decide +kernel
theorem dX5_same_96 : decode cX5_same 96 = .ok (.iload 5, 2) := by decide +kernel
theorem dX5_same_98 : decode cX5_same 98 = .ok (.iadd, 1) := by decide +kernel
theorem dX5_same_99 : decode cX5_same 99 = .ok (.goto 4, 3) := by decide +kernel
theorem dX5_same_102 : decode cX5_same 102 = .ok (.iload_n 3, 1) := by decide +kernel
theorem dX5_same_103 : decode cX5_same 103 = .ok (.istore_n 3, 1) := by decide +kernel
theorem dX5_same_104 : decode cX5_same 104 = .ok (.iinc 5 1, 3) := by decide +kernel
theorem dX5_same_107 : decode cX5_same 107 = .ok (.goto (-68), 3) := by decide +kernel
theorem dX5_same_110 : decode cX5_same 110 = .ok (.iinc 4 1, 3) := by decide +kernel
theorem dX5_same_113 : decode cX5_same 113 = .ok (.goto (-89), 3) := by decide +kernel
theorem dX5_same_116 : decode cX5_same 116 = .ok (.iload_n 1, 1) := by decide +kernel
theorem dX5_same_117 : decode cX5_same 117 = .ok (.ifCond .ne 7, 3) := by decide +kernel
theorem dX5_same_120 : decode cX5_same 120 = .ok (.iload_n 2, 1) := by decide +kernel
theorem dX5_same_121 : decode cX5_same 121 = .ok (.goto 4, 3) := by decide +kernel
theorem dX5_same_124 : decode cX5_same 124 = .ok (.iload_n 3, 1) := by decide +kernel
theorem dX5_same_125 : decode cX5_same 125 = .ok (.ireturn, 1) := by decide +kernel
theorem dX5_ending_0 : decode cX5_ending 0 = .ok (.iload_n 1, 1) := by decide +kernel
theorem dX5_ending_1 : decode cX5_ending 1 = .ok (.iconst 0, 1) := by decide +kernel
theorem dX5_ending_2 : decode cX5_ending 2 = .ok (.bipush 9, 2) := by decide +kernel
theorem dX5_ending_4 : decode cX5_ending 4 = .ok (.invokestatic 62, 3) := by decide +kernel
theorem dX5_ending_7 : decode cX5_ending 7 = .ok (.istore_n 2, 1) := by decide +kernel
theorem dX5_ending_8 : decode cX5_ending 8 = .ok (.iload_n 2, 1) := by decide +kernel
theorem dX5_ending_9 : decode cX5_ending 9 = .ok (.ifCond .eq 9, 3) := by decide +kernel
theorem dX5_ending_12 : decode cX5_ending 12 = .ok (.aload_n 0, 1) := by decide +kernel
theorem dX5_ending_13 : decode cX5_ending 13 = .ok (.iload_n 2, 1) := by decide +kernel
theorem dX5_ending_14 : decode cX5_ending 14 = .ok (.invokevirtual 69, 3) := by decide +kernel
theorem dX5_ending_17 : decode cX5_ending 17 = .ok (.ireturn, 1) := by decide +kernel
theorem dX5_ending_18 : decode cX5_ending 18 = .ok (.iconst 0, 1) := by decide +kernel
theorem dX5_ending_19 : decode cX5_ending 19 = .ok (.istore_n 3, 1) := by decide +kernel
theorem dX5_ending_20 : decode cX5_ending 20 = .ok (.iconst 0, 1) := by decide +kernel
theorem dX5_ending_21 : decode cX5_ending 21 = .ok (.istore 4, 2) := by decide +kernel
theorem dX5_ending_23 : decode cX5_ending 23 = .ok (.iload 4, 2) := by decide +kernel
theorem dX5_ending_25 : decode cX5_ending 25 = .ok (.aload_n 0, 1) := by decide +kernel
theorem dX5_ending_26 : decode cX5_ending 26 = .ok (.getfield 55, 3) := by decide +kernel
theorem dX5_ending_29 : decode cX5_ending 29 = .ok (.if_icmp .ge 36, 3) := by decide +kernel
theorem dX5_ending_32 : decode cX5_ending 32 = .ok (.iload_n 3, 1) := by decide +kernel
theorem dX5_ending_33 : decode cX5_ending 33 = .ok (.aload_n 0, 1) := by decide +kernel
theorem dX5_ending_34 : decode cX5_ending 34 = .ok (.iload 4, 2) := by decide +kernel
theorem dX5_ending_36 : decode cX5_ending 36 = .ok (.invokevirtual 177, 3) := by decide +kernel
theorem dX5_ending_39 : decode cX5_ending 39 = .ok (.ifCond .eq 17, 3) := by decide +kernel
theorem dX5_ending_42 : decode cX5_ending 42 = .ok (.aload_n 0, 1) := by decide +kernel
theorem dX5_ending_43 : decode cX5_ending 43 = .ok (.iload 4, 2) := by decide +kernel
theorem dX5_ending_45 : decode cX5_ending 45 = .ok (.invokevirtual 171, 3) := by decide +kernel
theorem dX5_ending_48 : decode cX5_ending 48 = .ok (.iload_n 1, 1) := by decide +kernel
theorem dX5_ending_49 : decode cX5_ending 49 = .ok (.if_icmp .ne 7, 3) := by decide +kernel
theorem dX5_ending_52 : decode cX5_ending 52 = .ok (.iconst 1, 1) := by decide +kernel
theorem dX5_ending_53 : decode cX5_ending 53 = .ok (.goto 4, 3) := by decide +kernel
theorem dX5_ending_56 : decode cX5_ending 56 = .ok (.iconst 0, 1) := by decide +kernel
theorem dX5_ending_57 : decode cX5_ending 57 = .ok (.iadd, 1) := by decide +kernel
theorem dX5_ending_58 : decode cX5_ending 58 = .ok (.istore_n 3, 1) := by decide +kernel
theorem dX5_ending_59 : decode cX5_ending 59 = .ok (.iinc 4 1, 3) := by decide +kernel
theorem dX5_ending_62 : decode cX5_ending 62 = .ok (.goto (-39), 3) := by decide +kernel
theorem dX5_ending_65 : decode cX5_ending 65 = .ok (.iload_n 3, 1) := by decide +kernel
theorem dX5_ending_66 : decode cX5_ending 66 = .ok (.ireturn, 1) := by decide +kernel
theorem dX5_join_0 : decode cX5_join 0 = .ok (.bipush (-9), 2) := by decide +kernel
theorem dX5_join_2 : decode cX5_join 2 = .ok (.istore_n 1, 1) := by decide +kernel
theorem dX5_join_3 : decode cX5_join 3 = .ok (.bipush (-9), 2) := by decide +kernel
theorem dX5_join_5 : decode cX5_join 5 = .ok (.istore_n 2, 1) := by decide +kernel
theorem dX5_join_6 : decode cX5_join 6 = .ok (.iconst 0, 1) := by decide +kernel
theorem dX5_join_7 : decode cX5_join 7 = .ok (.istore_n 3, 1) := by decide +kernel
theorem dX5_join_8 : decode cX5_join 8 = .ok (.iload_n 3, 1) := by decide +kernel
theorem dX5_join_9 : decode cX5_join 9 = .ok (.aload_n 0, 1) := by decide +kernel
theorem dX5_join_10 : decode cX5_join 10 = .ok (.getfield 55, 3) := by decide +kernel
theorem dX5_join_13 : decode cX5_join 13 = .ok (.if_icmp .ge 51, 3) := by decide +kernel
theorem dX5_join_16 : decode cX5_join 16 = .ok (.aload_n 0, 1) := by decide +kernel
theorem dX5_join_17 : decode cX5_join 17 = .ok (.iload_n 3, 1) := by decide +kernel
theorem dX5_join_18 : decode cX5_join 18 = .ok (.invokevirtual 177, 3) := by decide +kernel
theorem dX5_join_21 : decode cX5_join 21 = .ok (.ifCond .eq 19, 3) := by decide +kernel
theorem dX5_join_24 : decode cX5_join 24 = .ok (.aload_n 0, 1) := by decide +kernel
theorem dX5_join_25 : decode cX5_join 25 = .ok (.iload_n 3, 1) := by decide +kernel
theorem dX5_join_26 : decode cX5_join 26 = .ok (.invokevirtual 165, 3) := by decide +kernel
theorem dX5_join_29 : decode cX5_join 29 = .ok (.aload_n 0, 1) := by decide +kernel
theorem dX5_join_30 : decode cX5_join 30 = .ok (.iload_n 3, 1) := by decide +kernel
theorem dX5_join_31 : decode cX5_join 31 = .ok (.invokevirtual 171, 3) := by decide +kernel
theorem dX5_join_34 : decode cX5_join 34 = .ok (.invokestatic 155, 3) := by decide +kernel
theorem dX5_join_37 : decode cX5_join 37 = .ok (.goto 5, 3) := by decide +kernel
theorem dX5_join_40 : decode cX5_join 40 = .ok (.bipush (-9), 2) := by decide +kernel
theorem dX5_join_42 : decode cX5_join 42 = .ok (.istore 4, 2) := by decide +kernel
theorem dX5_join_44 : decode cX5_join 44 = .ok (.iload 4, 2) := by decide +kernel
theorem dX5_join_46 : decode cX5_join 46 = .ok (.iload_n 2, 1) := by decide +kernel
theorem dX5_join_47 : decode cX5_join 47 = .ok (.if_icmp .gt 6, 3) := by decide +kernel
theorem dX5_join_50 : decode cX5_join 50 = .ok (.goto 8, 3) := by decide +kernel
theorem dX5_join_53 : decode cX5_join 53 = .ok (.iload_n 3, 1) := by decide +kernel
theorem dX5_join_54 : decode cX5_join 54 = .ok (.istore_n 1, 1) := by decide +kernel
theorem dX5_join_55 : decode cX5_join 55 = .ok (.iload 4, 2) := by decide +kernel
theorem dX5_join_57 : decode cX5_join 57 = .ok (.istore_n 2, 1) := by decide +kernel
theorem dX5_join_58 : decode cX5_join 58 = .ok (.iinc 3 1, 3) := by decide +kernel
theorem dX5_join_61 : decode cX5_join 61 = .ok (.goto (-53), 3) := by decide +kernel
theorem dX5_join_64 : decode cX5_join 64 = .ok (.iload_n 1, 1) := by decide +kernel
theorem dX5_join_65 : decode cX5_join 65 = .ok (.ireturn, 1) := by decide +kernel
theorem dX5_bringsBehind_0 : decode cX5_bringsBehind 0 = .ok (.aload_n 0, 1) := by decide +kernel
theorem dX5_bringsBehind_1 : decode cX5_bringsBehind 1 = .ok (.iload_n 1, 1) := by decide +kernel
theorem dX5_bringsBehind_2 : decode cX5_bringsBehind 2 = .ok (.invokevirtual 159, 3) := by decide +kernel
theorem dX5_bringsBehind_5 : decode cX5_bringsBehind 5 = .ok (.istore_n 3, 1) := by decide +kernel
theorem dX5_bringsBehind_6 : decode cX5_bringsBehind 6 = .ok (.iload_n 3, 1) := by decide +kernel
theorem dX5_bringsBehind_7 : decode cX5_bringsBehind 7 = .ok (.istore 4, 2) := by decide +kernel
theorem dX5_bringsBehind_9 : decode cX5_bringsBehind 9 = .ok (.iload 4, 2) := by decide +kernel
theorem dX5_bringsBehind_11 : decode cX5_bringsBehind 11 = .ok (.iconst 1, 1) := by decide +kernel
theorem dX5_bringsBehind_12 : decode cX5_bringsBehind 12 = .ok (.iadd, 1) := by decide +kernel
theorem dX5_bringsBehind_13 : decode cX5_bringsBehind 13 = .ok (.aload_n 0, 1) := by decide +kernel
theorem dX5_bringsBehind_14 : decode cX5_bringsBehind 14 = .ok (.getfield 55, 3) := by decide +kernel
theorem dX5_bringsBehind_17 : decode cX5_bringsBehind 17 = .ok (.if_icmp .ge 25, 3) := by decide +kernel
theorem dX5_bringsBehind_20 : decode cX5_bringsBehind 20 = .ok (.aload_n 0, 1) := by decide +kernel
theorem dX5_bringsBehind_21 : decode cX5_bringsBehind 21 = .ok (.getfield 28, 3) := by decide +kernel
theorem dX5_bringsBehind_24 : decode cX5_bringsBehind 24 = .ok (.iload 4, 2) := by decide +kernel
theorem dX5_bringsBehind_26 : decode cX5_bringsBehind 26 = .ok (.aload_n 0, 1) := by decide +kernel
theorem dX5_bringsBehind_27 : decode cX5_bringsBehind 27 = .ok (.getfield 28, 3) := by decide +kernel
theorem dX5_bringsBehind_30 : decode cX5_bringsBehind 30 = .ok (.iload 4, 2) := by decide +kernel
theorem dX5_bringsBehind_32 : decode cX5_bringsBehind 32 = .ok (.iconst 1, 1) := by decide +kernel
theorem dX5_bringsBehind_33 : decode cX5_bringsBehind 33 = .ok (.iadd, 1) := by decide +kernel
theorem dX5_bringsBehind_34 : decode cX5_bringsBehind 34 = .ok (.iaload, 1) := by decide +kernel
theorem dX5_bringsBehind_35 : decode cX5_bringsBehind 35 = .ok (.iastore, 1) := by decide +kernel
theorem dX5_bringsBehind_36 : decode cX5_bringsBehind 36 = .ok (.iinc 4 1, 3) := by decide +kernel
theorem dX5_bringsBehind_39 : decode cX5_bringsBehind 39 = .ok (.goto (-30), 3) := by decide +kernel
theorem dX5_bringsBehind_42 : decode cX5_bringsBehind 42 = .ok (.aload_n 0, 1) := by decide +kernel
theorem dX5_bringsBehind_43 : decode cX5_bringsBehind 43 = .ok (.getfield 28, 3) := by decide +kernel
theorem dX5_bringsBehind_46 : decode cX5_bringsBehind 46 = .ok (.aload_n 0, 1) := by decide +kernel
theorem dX5_bringsBehind_47 : decode cX5_bringsBehind 47 = .ok (.getfield 55, 3) := by decide +kernel
theorem dX5_bringsBehind_50 : decode cX5_bringsBehind 50 = .ok (.iconst 1, 1) := by decide +kernel
theorem dX5_bringsBehind_51 : decode cX5_bringsBehind 51 = .ok (.isub, 1) := by decide +kernel
theorem dX5_bringsBehind_52 : decode cX5_bringsBehind 52 = .ok (.iload_n 1, 1) := by decide +kernel
theorem dX5_bringsBehind_53 : decode cX5_bringsBehind 53 = .ok (.iastore, 1) := by decide +kernel
theorem dX5_bringsBehind_54 : decode cX5_bringsBehind 54 = .ok (.aload_n 0, 1) := by decide +kernel
theorem dX5_bringsBehind_55 : decode cX5_bringsBehind 55 = .ok (.iload_n 2, 1) := by decide +kernel
theorem dX5_bringsBehind_56 : decode cX5_bringsBehind 56 = .ok (.invokevirtual 159, 3) := by decide +kernel
theorem dX5_bringsBehind_59 : decode cX5_bringsBehind 59 = .ok (.istore 4, 2) := by decide +kernel
theorem dX5_bringsBehind_61 : decode cX5_bringsBehind 61 = .ok (.aload_n 0, 1) := by decide +kernel
theorem dX5_bringsBehind_62 : decode cX5_bringsBehind 62 = .ok (.getfield 55, 3) := by decide +kernel
theorem dX5_bringsBehind_65 : decode cX5_bringsBehind 65 = .ok (.iconst 1, 1) := by decide +kernel
theorem dX5_bringsBehind_66 : decode cX5_bringsBehind 66 = .ok (.isub, 1) := by decide +kernel
theorem dX5_bringsBehind_67 : decode cX5_bringsBehind 67 = .ok (.istore 5, 2) := by decide +kernel
theorem dX5_bringsBehind_69 : decode cX5_bringsBehind 69 = .ok (.iload 5, 2) := by decide +kernel
theorem dX5_bringsBehind_71 : decode cX5_bringsBehind 71 = .ok (.iload 4, 2) := by decide +kernel
theorem dX5_bringsBehind_73 : decode cX5_bringsBehind 73 = .ok (.iconst 1, 1) := by decide +kernel
theorem dX5_bringsBehind_74 : decode cX5_bringsBehind 74 = .ok (.iadd, 1) := by decide +kernel
theorem dX5_bringsBehind_75 : decode cX5_bringsBehind 75 = .ok (.if_icmp .le 25, 3) := by decide +kernel
theorem dX5_bringsBehind_78 : decode cX5_bringsBehind 78 = .ok (.aload_n 0, 1) := by decide +kernel
theorem dX5_bringsBehind_79 : decode cX5_bringsBehind 79 = .ok (.getfield 28, 3) := by decide +kernel
theorem dX5_bringsBehind_82 : decode cX5_bringsBehind 82 = .ok (.iload 5, 2) := by decide +kernel
theorem dX5_bringsBehind_84 : decode cX5_bringsBehind 84 = .ok (.aload_n 0, 1) := by decide +kernel
theorem dX5_bringsBehind_85 : decode cX5_bringsBehind 85 = .ok (.getfield 28, 3) := by decide +kernel
theorem dX5_bringsBehind_88 : decode cX5_bringsBehind 88 = .ok (.iload 5, 2) := by decide +kernel
theorem dX5_bringsBehind_90 : decode cX5_bringsBehind 90 = .ok (.iconst 1, 1) := by decide +kernel
theorem dX5_bringsBehind_91 : decode cX5_bringsBehind 91 = .ok (.isub, 1) := by decide +kernel
theorem dX5_bringsBehind_92 : decode cX5_bringsBehind 92 = .ok (.iaload, 1) := by decide +kernel
theorem dX5_bringsBehind_93 : decode cX5_bringsBehind 93 = .ok (.iastore, 1) := by decide +kernel
theorem dX5_bringsBehind_94 : decode cX5_bringsBehind 94 = .ok (.iinc 5 (-1), 3) := by decide +kernel
theorem dX5_bringsBehind_97 : decode cX5_bringsBehind 97 = .ok (.goto (-28), 3) := by decide +kernel
theorem dX5_bringsBehind_100 : decode cX5_bringsBehind 100 = .ok (.aload_n 0, 1) := by decide +kernel
theorem dX5_bringsBehind_101 : decode cX5_bringsBehind 101 = .ok (.getfield 28, 3) := by decide +kernel
theorem dX5_bringsBehind_104 : decode cX5_bringsBehind 104 = .ok (.iload 4, 2) := by decide +kernel
theorem dX5_bringsBehind_106 : decode cX5_bringsBehind 106 = .ok (.iconst 1, 1) := by decide +kernel
theorem dX5_bringsBehind_107 : decode cX5_bringsBehind 107 = .ok (.iadd, 1) := by decide +kernel
theorem dX5_bringsBehind_108 : decode cX5_bringsBehind 108 = .ok (.iload_n 1, 1) := by decide +kernel
theorem dX5_bringsBehind_109 : decode cX5_bringsBehind 109 = .ok (.iastore, 1) := by decide +kernel
theorem dX5_bringsBehind_110 : decode cX5_bringsBehind 110 = .ok (.return_, 1) := by decide +kernel
theorem dX5_findGets_0 : decode cX5_findGets 0 = .ok (.iconst 0, 1) := by decide +kernel
theorem dX5_findGets_1 : decode cX5_findGets 1 = .ok (.istore_n 3, 1) := by decide +kernel
theorem dX5_findGets_2 : decode cX5_findGets 2 = .ok (.iload_n 3, 1) := by decide +kernel
theorem dX5_findGets_3 : decode cX5_findGets 3 = .ok (.iconst 4, 1) := by decide +kernel
theorem dX5_findGets_4 : decode cX5_findGets 4 = .ok (.if_icmp .ge 90, 3) := by decide +kernel
theorem dX5_findGets_7 : decode cX5_findGets 7 = .ok (.aload_n 0, 1) := by decide +kernel
theorem dX5_findGets_8 : decode cX5_findGets 8 = .ok (.invokevirtual 200, 3) := by decide +kernel
theorem dX5_findGets_11 : decode cX5_findGets 11 = .ok (.iload_n 3, 1) := by decide +kernel
theorem dX5_findGets_12 : decode cX5_findGets 12 = .ok (.iconst 3, 1) := by decide +kernel
theorem dX5_findGets_13 : decode cX5_findGets 13 = .ok (.if_icmp .ne 9, 3) := by decide +kernel
theorem dX5_findGets_16 : decode cX5_findGets 16 = .ok (.aload_n 0, 1) := by decide +kernel
theorem dX5_findGets_17 : decode cX5_findGets 17 = .ok (.iload_n 1, 1) := by decide +kernel
theorem dX5_findGets_18 : decode cX5_findGets 18 = .ok (.iload_n 2, 1) := by decide +kernel
theorem dX5_findGets_19 : decode cX5_findGets 19 = .ok (.invokevirtual 117, 3) := by decide +kernel
theorem dX5_findGets_22 : decode cX5_findGets 22 = .ok (.iload_n 3, 1) := by decide +kernel
theorem dX5_findGets_23 : decode cX5_findGets 23 = .ok (.iconst 2, 1) := by decide +kernel
theorem dX5_findGets_24 : decode cX5_findGets 24 = .ok (.if_icmp .ne 9, 3) := by decide +kernel
theorem dX5_findGets_27 : decode cX5_findGets 27 = .ok (.aload_n 0, 1) := by decide +kernel
theorem dX5_findGets_28 : decode cX5_findGets 28 = .ok (.iload_n 1, 1) := by decide +kernel
theorem dX5_findGets_29 : decode cX5_findGets 29 = .ok (.iload_n 2, 1) := by decide +kernel
theorem dX5_findGets_30 : decode cX5_findGets 30 = .ok (.invokevirtual 239, 3) := by decide +kernel
theorem dX5_findGets_33 : decode cX5_findGets 33 = .ok (.iload_n 3, 1) := by decide +kernel
theorem dX5_findGets_34 : decode cX5_findGets 34 = .ok (.iconst 1, 1) := by decide +kernel
theorem dX5_findGets_35 : decode cX5_findGets 35 = .ok (.if_icmp .ne 9, 3) := by decide +kernel
theorem dX5_findGets_38 : decode cX5_findGets 38 = .ok (.aload_n 0, 1) := by decide +kernel
theorem dX5_findGets_39 : decode cX5_findGets 39 = .ok (.iload_n 2, 1) := by decide +kernel
theorem dX5_findGets_40 : decode cX5_findGets 40 = .ok (.iload_n 1, 1) := by decide +kernel
theorem dX5_findGets_41 : decode cX5_findGets 41 = .ok (.invokevirtual 239, 3) := by decide +kernel
theorem dX5_findGets_44 : decode cX5_findGets 44 = .ok (.aload_n 0, 1) := by decide +kernel
theorem dX5_findGets_45 : decode cX5_findGets 45 = .ok (.getfield 49, 3) := by decide +kernel
theorem dX5_findGets_48 : decode cX5_findGets 48 = .ok (.iconst 2, 1) := by decide +kernel
theorem dX5_findGets_49 : decode cX5_findGets 49 = .ok (.iload_n 3, 1) := by decide +kernel
theorem dX5_findGets_50 : decode cX5_findGets 50 = .ok (.imul, 1) := by decide +kernel
theorem dX5_findGets_51 : decode cX5_findGets 51 = .ok (.aload_n 0, 1) := by decide +kernel
theorem dX5_findGets_52 : decode cX5_findGets 52 = .ok (.iload_n 1, 1) := by decide +kernel
theorem dX5_findGets_53 : decode cX5_findGets 53 = .ok (.invokevirtual 180, 3) := by decide +kernel
theorem dX5_findGets_56 : decode cX5_findGets 56 = .ok (.iconst 2, 1) := by decide +kernel
theorem dX5_findGets_57 : decode cX5_findGets 57 = .ok (.iload_n 3, 1) := by decide +kernel
theorem dX5_findGets_58 : decode cX5_findGets 58 = .ok (.iconst 2, 1) := by decide +kernel
theorem dX5_findGets_59 : decode cX5_findGets 59 = .ok (.idiv, 1) := by decide +kernel
theorem dX5_findGets_60 : decode cX5_findGets 60 = .ok (.imul, 1) := by decide +kernel
theorem dX5_findGets_61 : decode cX5_findGets 61 = .ok (.isub, 1) := by decide +kernel
theorem dX5_findGets_62 : decode cX5_findGets 62 = .ok (.iastore, 1) := by decide +kernel
theorem dX5_findGets_63 : decode cX5_findGets 63 = .ok (.aload_n 0, 1) := by decide +kernel
theorem dX5_findGets_64 : decode cX5_findGets 64 = .ok (.getfield 49, 3) := by decide +kernel
theorem dX5_findGets_67 : decode cX5_findGets 67 = .ok (.iconst 2, 1) := by decide +kernel
theorem dX5_findGets_68 : decode cX5_findGets 68 = .ok (.iload_n 3, 1) := by decide +kernel
theorem dX5_findGets_69 : decode cX5_findGets 69 = .ok (.imul, 1) := by decide +kernel
theorem dX5_findGets_70 : decode cX5_findGets 70 = .ok (.iconst 1, 1) := by decide +kernel
theorem dX5_findGets_71 : decode cX5_findGets 71 = .ok (.iadd, 1) := by decide +kernel
theorem dX5_findGets_72 : decode cX5_findGets 72 = .ok (.aload_n 0, 1) := by decide +kernel
theorem dX5_findGets_73 : decode cX5_findGets 73 = .ok (.iload_n 2, 1) := by decide +kernel
theorem dX5_findGets_74 : decode cX5_findGets 74 = .ok (.invokevirtual 180, 3) := by decide +kernel
theorem dX5_findGets_77 : decode cX5_findGets 77 = .ok (.iconst 2, 1) := by decide +kernel
theorem dX5_findGets_78 : decode cX5_findGets 78 = .ok (.iload_n 3, 1) := by decide +kernel
theorem dX5_findGets_79 : decode cX5_findGets 79 = .ok (.iconst 2, 1) := by decide +kernel
theorem dX5_findGets_80 : decode cX5_findGets 80 = .ok (.irem, 1) := by decide +kernel
theorem dX5_findGets_81 : decode cX5_findGets 81 = .ok (.imul, 1) := by decide +kernel
theorem dX5_findGets_82 : decode cX5_findGets 82 = .ok (.isub, 1) := by decide +kernel
theorem dX5_findGets_83 : decode cX5_findGets 83 = .ok (.iastore, 1) := by decide +kernel
theorem dX5_findGets_84 : decode cX5_findGets 84 = .ok (.aload_n 0, 1) := by decide +kernel
theorem dX5_findGets_85 : decode cX5_findGets 85 = .ok (.invokevirtual 203, 3) := by decide +kernel
theorem dX5_findGets_88 : decode cX5_findGets 88 = .ok (.iinc 3 1, 3) := by decide +kernel
theorem dX5_findGets_91 : decode cX5_findGets 91 = .ok (.goto (-89), 3) := by decide +kernel
theorem dX5_findGets_94 : decode cX5_findGets 94 = .ok (.return_, 1) := by decide +kernel
theorem dX5_two_0 : decode cX5_two 0 = .ok (.aload_n 0, 1) := by decide +kernel
theorem dX5_two_1 : decode cX5_two 1 = .ok (.iload_n 1, 1) := by decide +kernel
theorem dX5_two_2 : decode cX5_two 2 = .ok (.iload_n 2, 1) := by decide +kernel
theorem dX5_two_3 : decode cX5_two 3 = .ok (.invokevirtual 114, 3) := by decide +kernel
theorem dX5_two_6 : decode cX5_two 6 = .ok (.ifCond .ne 7, 3) := by decide +kernel
theorem dX5_two_9 : decode cX5_two 9 = .ok (.iconst (-1), 1) := by decide +kernel
theorem dX5_two_10 : decode cX5_two 10 = .ok (.goto 25, 3) := by decide +kernel
theorem dX5_two_13 : decode cX5_two 13 = .ok (.aload_n 0, 1) := by decide +kernel
theorem dX5_two_14 : decode cX5_two 14 = .ok (.getfield 25, 3) := by decide +kernel
theorem dX5_two_17 : decode cX5_two 17 = .ok (.iload_n 1, 1) := by decide +kernel
theorem dX5_two_18 : decode cX5_two 18 = .ok (.iaload, 1) := by decide +kernel
theorem dX5_two_19 : decode cX5_two 19 = .ok (.aload_n 0, 1) := by decide +kernel
theorem dX5_two_20 : decode cX5_two 20 = .ok (.getfield 25, 3) := by decide +kernel
theorem dX5_two_23 : decode cX5_two 23 = .ok (.iload_n 2, 1) := by decide +kernel
theorem dX5_two_24 : decode cX5_two 24 = .ok (.iaload, 1) := by decide +kernel
theorem dX5_two_25 : decode cX5_two 25 = .ok (.iadd, 1) := by decide +kernel
theorem dX5_two_26 : decode cX5_two 26 = .ok (.ifCond .le 8, 3) := by decide +kernel
theorem dX5_two_29 : decode cX5_two 29 = .ok (.bipush (-3), 2) := by decide +kernel
theorem dX5_two_31 : decode cX5_two 31 = .ok (.goto 4, 3) := by decide +kernel
theorem dX5_two_34 : decode cX5_two 34 = .ok (.iconst 0, 1) := by decide +kernel
theorem dX5_two_35 : decode cX5_two 35 = .ok (.istore_n 3, 1) := by decide +kernel
theorem dX5_two_36 : decode cX5_two 36 = .ok (.iload_n 3, 1) := by decide +kernel
theorem dX5_two_37 : decode cX5_two 37 = .ok (.ifCond .eq 9, 3) := by decide +kernel
theorem dX5_two_40 : decode cX5_two 40 = .ok (.aload_n 0, 1) := by decide +kernel
theorem dX5_two_41 : decode cX5_two 41 = .ok (.iload_n 3, 1) := by decide +kernel
theorem dX5_two_42 : decode cX5_two 42 = .ok (.invokevirtual 69, 3) := by decide +kernel
theorem dX5_two_45 : decode cX5_two 45 = .ok (.ireturn, 1) := by decide +kernel
theorem dX5_two_46 : decode cX5_two 46 = .ok (.aload_n 0, 1) := by decide +kernel
theorem dX5_two_47 : decode cX5_two 47 = .ok (.iload_n 1, 1) := by decide +kernel
theorem dX5_two_48 : decode cX5_two 48 = .ok (.iload_n 2, 1) := by decide +kernel
theorem dX5_two_49 : decode cX5_two 49 = .ok (.invokevirtual 242, 3) := by decide +kernel
theorem dX5_two_52 : decode cX5_two 52 = .ok (.iconst 0, 1) := by decide +kernel
theorem dX5_two_53 : decode cX5_two 53 = .ok (.istore 4, 2) := by decide +kernel
theorem dX5_two_55 : decode cX5_two 55 = .ok (.iload 4, 2) := by decide +kernel
theorem dX5_two_57 : decode cX5_two 57 = .ok (.iconst 4, 1) := by decide +kernel
theorem dX5_two_58 : decode cX5_two 58 = .ok (.if_icmp .ge 72, 3) := by decide +kernel
theorem dX5_two_61 : decode cX5_two 61 = .ok (.aload_n 0, 1) := by decide +kernel
theorem dX5_two_62 : decode cX5_two 62 = .ok (.getfield 49, 3) := by decide +kernel
theorem dX5_two_65 : decode cX5_two 65 = .ok (.iconst 2, 1) := by decide +kernel
theorem dX5_two_66 : decode cX5_two 66 = .ok (.iload 4, 2) := by decide +kernel
theorem dX5_two_68 : decode cX5_two 68 = .ok (.iconst 2, 1) := by decide +kernel
theorem dX5_two_69 : decode cX5_two 69 = .ok (.ixor, 1) := by decide +kernel
theorem dX5_two_70 : decode cX5_two 70 = .ok (.imul, 1) := by decide +kernel
theorem dX5_two_71 : decode cX5_two 71 = .ok (.iaload, 1) := by decide +kernel
theorem dX5_two_72 : decode cX5_two 72 = .ok (.aload_n 0, 1) := by decide +kernel
theorem dX5_two_73 : decode cX5_two 73 = .ok (.getfield 49, 3) := by decide +kernel
theorem dX5_two_76 : decode cX5_two 76 = .ok (.iconst 2, 1) := by decide +kernel
theorem dX5_two_77 : decode cX5_two 77 = .ok (.iload 4, 2) := by decide +kernel
theorem dX5_two_79 : decode cX5_two 79 = .ok (.imul, 1) := by decide +kernel
theorem dX5_two_80 : decode cX5_two 80 = .ok (.iaload, 1) := by decide +kernel
theorem dX5_two_81 : decode cX5_two 81 = .ok (.if_icmp .gt 43, 3) := by decide +kernel
theorem dX5_two_84 : decode cX5_two 84 = .ok (.aload_n 0, 1) := by decide +kernel
theorem dX5_two_85 : decode cX5_two 85 = .ok (.getfield 49, 3) := by decide +kernel
theorem dX5_two_88 : decode cX5_two 88 = .ok (.iconst 2, 1) := by decide +kernel
theorem dX5_two_89 : decode cX5_two 89 = .ok (.iload 4, 2) := by decide +kernel
theorem dX5_two_91 : decode cX5_two 91 = .ok (.iconst 1, 1) := by decide +kernel
theorem dX5_two_92 : decode cX5_two 92 = .ok (.ixor, 1) := by decide +kernel
theorem dX5_two_93 : decode cX5_two 93 = .ok (.imul, 1) := by decide +kernel
theorem dX5_two_94 : decode cX5_two 94 = .ok (.iconst 1, 1) := by decide +kernel
theorem dX5_two_95 : decode cX5_two 95 = .ok (.iadd, 1) := by decide +kernel
theorem dX5_two_96 : decode cX5_two 96 = .ok (.iaload, 1) := by decide +kernel
theorem dX5_two_97 : decode cX5_two 97 = .ok (.aload_n 0, 1) := by decide +kernel
theorem dX5_two_98 : decode cX5_two 98 = .ok (.getfield 49, 3) := by decide +kernel
theorem dX5_two_101 : decode cX5_two 101 = .ok (.iconst 2, 1) := by decide +kernel
theorem dX5_two_102 : decode cX5_two 102 = .ok (.iload 4, 2) := by decide +kernel
theorem dX5_two_104 : decode cX5_two 104 = .ok (.imul, 1) := by decide +kernel
theorem dX5_two_105 : decode cX5_two 105 = .ok (.iconst 1, 1) := by decide +kernel
theorem dX5_two_106 : decode cX5_two 106 = .ok (.iadd, 1) := by decide +kernel
theorem dX5_two_107 : decode cX5_two 107 = .ok (.iaload, 1) := by decide +kernel
theorem dX5_two_108 : decode cX5_two 108 = .ok (.if_icmp .gt 16, 3) := by decide +kernel
theorem dX5_two_111 : decode cX5_two 111 = .ok (.bipush 10, 2) := by decide +kernel
theorem dX5_two_113 : decode cX5_two 113 = .ok (.iload 4, 2) := by decide +kernel
theorem dX5_two_115 : decode cX5_two 115 = .ok (.iconst 2, 1) := by decide +kernel
theorem dX5_two_116 : decode cX5_two 116 = .ok (.idiv, 1) := by decide +kernel
theorem dX5_two_117 : decode cX5_two 117 = .ok (.imul, 1) := by decide +kernel
theorem dX5_two_118 : decode cX5_two 118 = .ok (.iload 4, 2) := by decide +kernel
theorem dX5_two_120 : decode cX5_two 120 = .ok (.iconst 2, 1) := by decide +kernel
theorem dX5_two_121 : decode cX5_two 121 = .ok (.irem, 1) := by decide +kernel
theorem dX5_two_122 : decode cX5_two 122 = .ok (.iadd, 1) := by decide +kernel
theorem dX5_two_123 : decode cX5_two 123 = .ok (.ireturn, 1) := by decide +kernel
theorem dX5_two_124 : decode cX5_two 124 = .ok (.iinc 4 1, 3) := by decide +kernel
theorem dX5_two_127 : decode cX5_two 127 = .ok (.goto (-72), 3) := by decide +kernel
theorem dX5_two_130 : decode cX5_two 130 = .ok (.bipush (-9), 2) := by decide +kernel
theorem dX5_two_132 : decode cX5_two 132 = .ok (.ireturn, 1) := by decide +kernel
theorem dX5_divisor_0 : decode cX5_divisor 0 = .ok (.lload_n 0, 1) := by decide +kernel
theorem dX5_divisor_1 : decode cX5_divisor 1 = .ok (.lstore 4, 2) := by decide +kernel
theorem dX5_divisor_3 : decode cX5_divisor 3 = .ok (.lload_n 2, 1) := by decide +kernel
theorem dX5_divisor_4 : decode cX5_divisor 4 = .ok (.lstore 6, 2) := by decide +kernel
theorem dX5_divisor_6 : decode cX5_divisor 6 = .ok (.lload 6, 2) := by decide +kernel
theorem dX5_divisor_8 : decode cX5_divisor 8 = .ok (.lconst 0, 1) := by decide +kernel
theorem dX5_divisor_9 : decode cX5_divisor 9 = .ok (.lcmp, 1) := by decide +kernel
theorem dX5_divisor_10 : decode cX5_divisor 10 = .ok (.ifCond .eq 21, 3) := by decide +kernel
theorem dX5_divisor_13 : decode cX5_divisor 13 = .ok (.lload 4, 2) := by decide +kernel
theorem dX5_divisor_15 : decode cX5_divisor 15 = .ok (.lload 6, 2) := by decide +kernel
theorem dX5_divisor_17 : decode cX5_divisor 17 = .ok (.lrem, 1) := by decide +kernel
theorem dX5_divisor_18 : decode cX5_divisor 18 = .ok (.lstore 8, 2) := by decide +kernel
theorem dX5_divisor_20 : decode cX5_divisor 20 = .ok (.lload 6, 2) := by decide +kernel
theorem dX5_divisor_22 : decode cX5_divisor 22 = .ok (.lstore 4, 2) := by decide +kernel
theorem dX5_divisor_24 : decode cX5_divisor 24 = .ok (.lload 8, 2) := by decide +kernel
theorem dX5_divisor_26 : decode cX5_divisor 26 = .ok (.lstore 6, 2) := by decide +kernel
theorem dX5_divisor_28 : decode cX5_divisor 28 = .ok (.goto (-22), 3) := by decide +kernel
theorem dX5_divisor_31 : decode cX5_divisor 31 = .ok (.lload 4, 2) := by decide +kernel
theorem dX5_divisor_33 : decode cX5_divisor 33 = .ok (.lreturn, 1) := by decide +kernel
theorem dX5_partOf_0 : decode cX5_partOf 0 = .ok (.iload 4, 2) := by decide +kernel
theorem dX5_partOf_2 : decode cX5_partOf 2 = .ok (.ifCond .ne 7, 3) := by decide +kernel
theorem dX5_partOf_5 : decode cX5_partOf 5 = .ok (.lload_n 0, 1) := by decide +kernel
theorem dX5_partOf_6 : decode cX5_partOf 6 = .ok (.goto 4, 3) := by decide +kernel
theorem dX5_partOf_9 : decode cX5_partOf 9 = .ok (.lload_n 2, 1) := by decide +kernel
theorem dX5_partOf_10 : decode cX5_partOf 10 = .ok (.lload_n 0, 1) := by decide +kernel
theorem dX5_partOf_11 : decode cX5_partOf 11 = .ok (.lload_n 2, 1) := by decide +kernel
theorem dX5_partOf_12 : decode cX5_partOf 12 = .ok (.invokestatic 245, 3) := by decide +kernel
theorem dX5_partOf_15 : decode cX5_partOf 15 = .ok (.ldiv, 1) := by decide +kernel
theorem dX5_partOf_16 : decode cX5_partOf 16 = .ok (.lreturn, 1) := by decide +kernel
theorem dX5_censor_0 : decode cX5_censor 0 = .ok (.aload_n 0, 1) := by decide +kernel
theorem dX5_censor_1 : decode cX5_censor 1 = .ok (.iload_n 1, 1) := by decide +kernel
theorem dX5_censor_2 : decode cX5_censor 2 = .ok (.invokevirtual 108, 3) := by decide +kernel
theorem dX5_censor_5 : decode cX5_censor 5 = .ok (.ifCond .ne 7, 3) := by decide +kernel
theorem dX5_censor_8 : decode cX5_censor 8 = .ok (.iconst (-1), 1) := by decide +kernel
theorem dX5_censor_9 : decode cX5_censor 9 = .ok (.goto 62, 3) := by decide +kernel
theorem dX5_censor_12 : decode cX5_censor 12 = .ok (.iload_n 2, 1) := by decide +kernel
theorem dX5_censor_13 : decode cX5_censor 13 = .ok (.ifCond .lt 13, 3) := by decide +kernel
theorem dX5_censor_16 : decode cX5_censor 16 = .ok (.iload 4, 2) := by decide +kernel
theorem dX5_censor_18 : decode cX5_censor 18 = .ok (.ifCond .lt 8, 3) := by decide +kernel
theorem dX5_censor_21 : decode cX5_censor 21 = .ok (.iload_n 3, 1) := by decide +kernel
theorem dX5_censor_22 : decode cX5_censor 22 = .ok (.iconst 2, 1) := by decide +kernel
theorem dX5_censor_23 : decode cX5_censor 23 = .ok (.if_icmp .ge 8, 3) := by decide +kernel
theorem dX5_censor_26 : decode cX5_censor 26 = .ok (.bipush (-4), 2) := by decide +kernel
theorem dX5_censor_28 : decode cX5_censor 28 = .ok (.goto 43, 3) := by decide +kernel
theorem dX5_censor_31 : decode cX5_censor 31 = .ok (.iload_n 2, 1) := by decide +kernel
theorem dX5_censor_32 : decode cX5_censor 32 = .ok (.bipush 7, 2) := by decide +kernel
theorem dX5_censor_34 : decode cX5_censor 34 = .ok (.if_icmp .gt 16, 3) := by decide +kernel
theorem dX5_censor_37 : decode cX5_censor 37 = .ok (.iload_n 3, 1) := by decide +kernel
theorem dX5_censor_38 : decode cX5_censor 38 = .ok (.bipush 20, 2) := by decide +kernel
theorem dX5_censor_40 : decode cX5_censor 40 = .ok (.if_icmp .gt 10, 3) := by decide +kernel
theorem dX5_censor_43 : decode cX5_censor 43 = .ok (.iload 4, 2) := by decide +kernel
theorem dX5_censor_45 : decode cX5_censor 45 = .ok (.bipush 99, 2) := by decide +kernel
theorem dX5_censor_47 : decode cX5_censor 47 = .ok (.if_icmp .le 8, 3) := by decide +kernel
theorem dX5_censor_50 : decode cX5_censor 50 = .ok (.bipush (-6), 2) := by decide +kernel
theorem dX5_censor_52 : decode cX5_censor 52 = .ok (.goto 19, 3) := by decide +kernel
theorem dX5_censor_55 : decode cX5_censor 55 = .ok (.iload 5, 2) := by decide +kernel
theorem dX5_censor_57 : decode cX5_censor 57 = .ok (.iconst 0, 1) := by decide +kernel
theorem dX5_censor_58 : decode cX5_censor 58 = .ok (.iconst 1, 1) := by decide +kernel
theorem dX5_censor_59 : decode cX5_censor 59 = .ok (.invokestatic 80, 3) := by decide +kernel
theorem dX5_censor_62 : decode cX5_censor 62 = .ok (.ifCond .ne 8, 3) := by decide +kernel
theorem dX5_censor_65 : decode cX5_censor 65 = .ok (.bipush (-2), 2) := by decide +kernel
theorem dX5_censor_67 : decode cX5_censor 67 = .ok (.goto 4, 3) := by decide +kernel
theorem dX5_censor_70 : decode cX5_censor 70 = .ok (.iconst 0, 1) := by decide +kernel
theorem dX5_censor_71 : decode cX5_censor 71 = .ok (.istore 6, 2) := by decide +kernel
theorem dX5_censor_73 : decode cX5_censor 73 = .ok (.iload 6, 2) := by decide +kernel
theorem dX5_censor_75 : decode cX5_censor 75 = .ok (.ifCond .eq 10, 3) := by decide +kernel
theorem dX5_censor_78 : decode cX5_censor 78 = .ok (.aload_n 0, 1) := by decide +kernel
theorem dX5_censor_79 : decode cX5_censor 79 = .ok (.iload 6, 2) := by decide +kernel
theorem dX5_censor_81 : decode cX5_censor 81 = .ok (.invokevirtual 249, 3) := by decide +kernel
theorem dX5_censor_84 : decode cX5_censor 84 = .ok (.lreturn, 1) := by decide +kernel
theorem dX5_censor_85 : decode cX5_censor 85 = .ok (.lconst 0, 1) := by decide +kernel
theorem dX5_censor_86 : decode cX5_censor 86 = .ok (.lstore 7, 2) := by decide +kernel
theorem dX5_censor_88 : decode cX5_censor 88 = .ok (.lconst 1, 1) := by decide +kernel
theorem dX5_censor_89 : decode cX5_censor 89 = .ok (.lstore 9, 2) := by decide +kernel
theorem dX5_censor_91 : decode cX5_censor 91 = .ok (.iconst 0, 1) := by decide +kernel
theorem dX5_censor_92 : decode cX5_censor 92 = .ok (.istore 11, 2) := by decide +kernel
theorem dX5_censor_94 : decode cX5_censor 94 = .ok (.iload 11, 2) := by decide +kernel
theorem dX5_censor_96 : decode cX5_censor 96 = .ok (.iload_n 2, 1) := by decide +kernel
theorem dX5_censor_97 : decode cX5_censor 97 = .ok (.if_icmp .ge 16, 3) := by decide +kernel
theorem dX5_censor_100 : decode cX5_censor 100 = .ok (.lload 9, 2) := by decide +kernel
theorem dX5_censor_102 : decode cX5_censor 102 = .ok (.iload_n 3, 1) := by decide +kernel
theorem dX5_censor_103 : decode cX5_censor 103 = .ok (.i2l, 1) := by decide +kernel
theorem dX5_censor_104 : decode cX5_censor 104 = .ok (.lmul, 1) := by decide +kernel
theorem dX5_censor_105 : decode cX5_censor 105 = .ok (.lstore 9, 2) := by decide +kernel
theorem dX5_censor_107 : decode cX5_censor 107 = .ok (.iinc 11 1, 3) := by decide +kernel
theorem dX5_censor_110 : decode cX5_censor 110 = .ok (.goto (-16), 3) := by decide +kernel
theorem dX5_censor_113 : decode cX5_censor 113 = .ok (.iconst 0, 1) := by decide +kernel
theorem dX5_censor_114 : decode cX5_censor 114 = .ok (.istore 11, 2) := by decide +kernel
theorem dX5_censor_116 : decode cX5_censor 116 = .ok (.iload 11, 2) := by decide +kernel
theorem dX5_censor_118 : decode cX5_censor 118 = .ok (.iconst 1, 1) := by decide +kernel
theorem dX5_censor_119 : decode cX5_censor 119 = .ok (.iload_n 2, 1) := by decide +kernel
theorem dX5_censor_120 : decode cX5_censor 120 = .ok (.ishl, 1) := by decide +kernel
theorem dX5_censor_121 : decode cX5_censor 121 = .ok (.if_icmp .ge 91, 3) := by decide +kernel
theorem dX5_censor_124 : decode cX5_censor 124 = .ok (.aload_n 0, 1) := by decide +kernel
theorem dX5_censor_125 : decode cX5_censor 125 = .ok (.invokevirtual 200, 3) := by decide +kernel
theorem dX5_censor_128 : decode cX5_censor 128 = .ok (.lconst 1, 1) := by decide +kernel
theorem dX5_censor_129 : decode cX5_censor 129 = .ok (.lstore 12, 2) := by decide +kernel
theorem dX5_censor_131 : decode cX5_censor 131 = .ok (.iconst 0, 1) := by decide +kernel
theorem dX5_censor_132 : decode cX5_censor 132 = .ok (.istore 14, 2) := by decide +kernel
theorem dX5_censor_134 : decode cX5_censor 134 = .ok (.iload 14, 2) := by decide +kernel
theorem dX5_censor_136 : decode cX5_censor 136 = .ok (.iload_n 2, 1) := by decide +kernel
theorem dX5_censor_137 : decode cX5_censor 137 = .ok (.if_icmp .ge 43, 3) := by decide +kernel
theorem dX5_censor_140 : decode cX5_censor 140 = .ok (.lload 12, 2) := by decide +kernel
theorem dX5_censor_142 : decode cX5_censor 142 = .ok (.iload 11, 2) := by decide +kernel
theorem dX5_censor_144 : decode cX5_censor 144 = .ok (.iload 14, 2) := by decide +kernel
theorem dX5_censor_146 : decode cX5_censor 146 = .ok (.invokestatic 218, 3) := by decide +kernel
theorem dX5_censor_149 : decode cX5_censor 149 = .ok (.ifCond .eq 7, 3) := by decide +kernel
theorem dX5_censor_152 : decode cX5_censor 152 = .ok (.lconst 1, 1) := by decide +kernel
theorem dX5_censor_153 : decode cX5_censor 153 = .ok (.goto 7, 3) := by decide +kernel
theorem dX5_censor_156 : decode cX5_censor 156 = .ok (.iload_n 3, 1) := by decide +kernel
theorem dX5_censor_157 : decode cX5_censor 157 = .ok (.iconst 1, 1) := by decide +kernel
theorem dX5_censor_158 : decode cX5_censor 158 = .ok (.isub, 1) := by decide +kernel
theorem dX5_censor_159 : decode cX5_censor 159 = .ok (.i2l, 1) := by decide +kernel
theorem dX5_censor_160 : decode cX5_censor 160 = .ok (.lmul, 1) := by decide +kernel
theorem dX5_censor_161 : decode cX5_censor 161 = .ok (.lstore 12, 2) := by decide +kernel
theorem dX5_censor_163 : decode cX5_censor 163 = .ok (.aload_n 0, 1) := by decide +kernel
theorem dX5_censor_164 : decode cX5_censor 164 = .ok (.iload 11, 2) := by decide +kernel
theorem dX5_censor_166 : decode cX5_censor 166 = .ok (.iload 14, 2) := by decide +kernel
theorem dX5_censor_168 : decode cX5_censor 168 = .ok (.invokestatic 218, 3) := by decide +kernel
theorem dX5_censor_171 : decode cX5_censor 171 = .ok (.invokevirtual 189, 3) := by decide +kernel
theorem dX5_censor_174 : decode cX5_censor 174 = .ok (.iinc 14 1, 3) := by decide +kernel
theorem dX5_censor_177 : decode cX5_censor 177 = .ok (.goto (-43), 3) := by decide +kernel
theorem dX5_censor_180 : decode cX5_censor 180 = .ok (.lload 7, 2) := by decide +kernel
theorem dX5_censor_182 : decode cX5_censor 182 = .ok (.aload_n 0, 1) := by decide +kernel
theorem dX5_censor_183 : decode cX5_censor 183 = .ok (.getfield 22, 3) := by decide +kernel
theorem dX5_censor_186 : decode cX5_censor 186 = .ok (.iload_n 1, 1) := by decide +kernel
theorem dX5_censor_187 : decode cX5_censor 187 = .ok (.iaload, 1) := by decide +kernel
theorem dX5_censor_188 : decode cX5_censor 188 = .ok (.iload 4, 2) := by decide +kernel
theorem dX5_censor_190 : decode cX5_censor 190 = .ok (.if_icmp .lt 8, 3) := by decide +kernel
theorem dX5_censor_193 : decode cX5_censor 193 = .ok (.lload 12, 2) := by decide +kernel
theorem dX5_censor_195 : decode cX5_censor 195 = .ok (.goto 4, 3) := by decide +kernel
theorem dX5_censor_198 : decode cX5_censor 198 = .ok (.lconst 0, 1) := by decide +kernel
theorem dX5_censor_199 : decode cX5_censor 199 = .ok (.ladd, 1) := by decide +kernel
theorem dX5_censor_200 : decode cX5_censor 200 = .ok (.lstore 7, 2) := by decide +kernel
theorem dX5_censor_202 : decode cX5_censor 202 = .ok (.aload_n 0, 1) := by decide +kernel
theorem dX5_censor_203 : decode cX5_censor 203 = .ok (.invokevirtual 203, 3) := by decide +kernel
theorem dX5_censor_206 : decode cX5_censor 206 = .ok (.iinc 11 1, 3) := by decide +kernel
theorem dX5_censor_209 : decode cX5_censor 209 = .ok (.goto (-93), 3) := by decide +kernel
theorem dX5_censor_212 : decode cX5_censor 212 = .ok (.lload 7, 2) := by decide +kernel
theorem dX5_censor_214 : decode cX5_censor 214 = .ok (.lload 9, 2) := by decide +kernel
theorem dX5_censor_216 : decode cX5_censor 216 = .ok (.iload 5, 2) := by decide +kernel
theorem dX5_censor_218 : decode cX5_censor 218 = .ok (.invokestatic 253, 3) := by decide +kernel
theorem dX5_censor_221 : decode cX5_censor 221 = .ok (.lreturn, 1) := by decide +kernel
theorem dX5_mean_0 : decode cX5_mean 0 = .ok (.iload_n 1, 1) := by decide +kernel
theorem dX5_mean_1 : decode cX5_mean 1 = .ok (.iconst 0, 1) := by decide +kernel
theorem dX5_mean_2 : decode cX5_mean 2 = .ok (.iconst 1, 1) := by decide +kernel
theorem dX5_mean_3 : decode cX5_mean 3 = .ok (.invokestatic 80, 3) := by decide +kernel
theorem dX5_mean_6 : decode cX5_mean 6 = .ok (.ifCond .ne 10, 3) := by decide +kernel
theorem dX5_mean_9 : decode cX5_mean 9 = .ok (.aload_n 0, 1) := by decide +kernel
theorem dX5_mean_10 : decode cX5_mean 10 = .ok (.bipush (-2), 2) := by decide +kernel
theorem dX5_mean_12 : decode cX5_mean 12 = .ok (.invokevirtual 249, 3) := by decide +kernel
theorem dX5_mean_15 : decode cX5_mean 15 = .ok (.lreturn, 1) := by decide +kernel
theorem dX5_mean_16 : decode cX5_mean 16 = .ok (.aload_n 0, 1) := by decide +kernel
theorem dX5_mean_17 : decode cX5_mean 17 = .ok (.getfield 55, 3) := by decide +kernel
theorem dX5_mean_20 : decode cX5_mean 20 = .ok (.ifCond .ne 8, 3) := by decide +kernel
theorem dX5_mean_23 : decode cX5_mean 23 = .ok (.iload_n 1, 1) := by decide +kernel
theorem dX5_mean_24 : decode cX5_mean 24 = .ok (.i2l, 1) := by decide +kernel
theorem dX5_mean_25 : decode cX5_mean 25 = .ok (.goto 21, 3) := by decide +kernel
theorem dX5_mean_28 : decode cX5_mean 28 = .ok (.aload_n 0, 1) := by decide +kernel
theorem dX5_mean_29 : decode cX5_mean 29 = .ok (.aload_n 0, 1) := by decide +kernel
theorem dX5_mean_30 : decode cX5_mean 30 = .ok (.getfield 22, 3) := by decide +kernel
theorem dX5_mean_33 : decode cX5_mean 33 = .ok (.invokevirtual 196, 3) := by decide +kernel
theorem dX5_mean_36 : decode cX5_mean 36 = .ok (.i2l, 1) := by decide +kernel
theorem dX5_mean_37 : decode cX5_mean 37 = .ok (.aload_n 0, 1) := by decide +kernel
theorem dX5_mean_38 : decode cX5_mean 38 = .ok (.getfield 55, 3) := by decide +kernel
theorem dX5_mean_41 : decode cX5_mean 41 = .ok (.i2l, 1) := by decide +kernel
theorem dX5_mean_42 : decode cX5_mean 42 = .ok (.iload_n 1, 1) := by decide +kernel
theorem dX5_mean_43 : decode cX5_mean 43 = .ok (.invokestatic 253, 3) := by decide +kernel
theorem dX5_mean_46 : decode cX5_mean 46 = .ok (.lreturn, 1) := by decide +kernel
theorem dX5_endedSo_0 : decode cX5_endedSo 0 = .ok (.iconst 0, 1) := by decide +kernel
theorem dX5_endedSo_1 : decode cX5_endedSo 1 = .ok (.istore_n 3, 1) := by decide +kernel
theorem dX5_endedSo_2 : decode cX5_endedSo 2 = .ok (.iconst 2, 1) := by decide +kernel
theorem dX5_endedSo_3 : decode cX5_endedSo 3 = .ok (.iload_n 3, 1) := by decide +kernel
theorem dX5_endedSo_4 : decode cX5_endedSo 4 = .ok (.imul, 1) := by decide +kernel
theorem dX5_endedSo_5 : decode cX5_endedSo 5 = .ok (.iconst 1, 1) := by decide +kernel
theorem dX5_endedSo_6 : decode cX5_endedSo 6 = .ok (.iadd, 1) := by decide +kernel
theorem dX5_endedSo_7 : decode cX5_endedSo 7 = .ok (.aload_n 0, 1) := by decide +kernel
theorem dX5_endedSo_8 : decode cX5_endedSo 8 = .ok (.getfield 257, 3) := by decide +kernel
theorem dX5_endedSo_11 : decode cX5_endedSo 11 = .ok (.if_icmp .ge 62, 3) := by decide +kernel
theorem dX5_endedSo_14 : decode cX5_endedSo 14 = .ok (.aload_n 0, 1) := by decide +kernel
theorem dX5_endedSo_15 : decode cX5_endedSo 15 = .ok (.getfield 19, 3) := by decide +kernel
theorem dX5_endedSo_18 : decode cX5_endedSo 18 = .ok (.iload_n 1, 1) := by decide +kernel
theorem dX5_endedSo_19 : decode cX5_endedSo 19 = .ok (.iaload, 1) := by decide +kernel
theorem dX5_endedSo_20 : decode cX5_endedSo 20 = .ok (.aload_n 0, 1) := by decide +kernel
theorem dX5_endedSo_21 : decode cX5_endedSo 21 = .ok (.getfield 101, 3) := by decide +kernel
theorem dX5_endedSo_24 : decode cX5_endedSo 24 = .ok (.iadd, 1) := by decide +kernel
theorem dX5_endedSo_25 : decode cX5_endedSo 25 = .ok (.iload_n 3, 1) := by decide +kernel
theorem dX5_endedSo_26 : decode cX5_endedSo 26 = .ok (.iadd, 1) := by decide +kernel
theorem dX5_endedSo_27 : decode cX5_endedSo 27 = .ok (.bipush 10, 2) := by decide +kernel
theorem dX5_endedSo_29 : decode cX5_endedSo 29 = .ok (.irem, 1) := by decide +kernel
theorem dX5_endedSo_30 : decode cX5_endedSo 30 = .ok (.istore 4, 2) := by decide +kernel
theorem dX5_endedSo_32 : decode cX5_endedSo 32 = .ok (.aload_n 0, 1) := by decide +kernel
theorem dX5_endedSo_33 : decode cX5_endedSo 33 = .ok (.getfield 52, 3) := by decide +kernel
theorem dX5_endedSo_36 : decode cX5_endedSo 36 = .ok (.iconst 2, 1) := by decide +kernel
theorem dX5_endedSo_37 : decode cX5_endedSo 37 = .ok (.iload_n 3, 1) := by decide +kernel
theorem dX5_endedSo_38 : decode cX5_endedSo 38 = .ok (.imul, 1) := by decide +kernel
theorem dX5_endedSo_39 : decode cX5_endedSo 39 = .ok (.iaload, 1) := by decide +kernel
theorem dX5_endedSo_40 : decode cX5_endedSo 40 = .ok (.iload 4, 2) := by decide +kernel
theorem dX5_endedSo_42 : decode cX5_endedSo 42 = .ok (.if_icmp .ne 23, 3) := by decide +kernel
theorem dX5_endedSo_45 : decode cX5_endedSo 45 = .ok (.aload_n 0, 1) := by decide +kernel
theorem dX5_endedSo_46 : decode cX5_endedSo 46 = .ok (.getfield 52, 3) := by decide +kernel
theorem dX5_endedSo_49 : decode cX5_endedSo 49 = .ok (.iconst 2, 1) := by decide +kernel
theorem dX5_endedSo_50 : decode cX5_endedSo 50 = .ok (.iload_n 3, 1) := by decide +kernel
theorem dX5_endedSo_51 : decode cX5_endedSo 51 = .ok (.imul, 1) := by decide +kernel
theorem dX5_endedSo_52 : decode cX5_endedSo 52 = .ok (.iconst 1, 1) := by decide +kernel
theorem dX5_endedSo_53 : decode cX5_endedSo 53 = .ok (.iadd, 1) := by decide +kernel
theorem dX5_endedSo_54 : decode cX5_endedSo 54 = .ok (.iaload, 1) := by decide +kernel
theorem dX5_endedSo_55 : decode cX5_endedSo 55 = .ok (.aload_n 0, 1) := by decide +kernel
theorem dX5_endedSo_56 : decode cX5_endedSo 56 = .ok (.iload_n 2, 1) := by decide +kernel
theorem dX5_endedSo_57 : decode cX5_endedSo 57 = .ok (.iload 4, 2) := by decide +kernel
theorem dX5_endedSo_59 : decode cX5_endedSo 59 = .ok (.invokevirtual 168, 3) := by decide +kernel
theorem dX5_endedSo_62 : decode cX5_endedSo 62 = .ok (.if_icmp .eq 5, 3) := by decide +kernel
theorem dX5_endedSo_65 : decode cX5_endedSo 65 = .ok (.iconst 0, 1) := by decide +kernel
theorem dX5_endedSo_66 : decode cX5_endedSo 66 = .ok (.ireturn, 1) := by decide +kernel
theorem dX5_endedSo_67 : decode cX5_endedSo 67 = .ok (.iinc 3 1, 3) := by decide +kernel
theorem dX5_endedSo_70 : decode cX5_endedSo 70 = .ok (.goto (-68), 3) := by decide +kernel
theorem dX5_endedSo_73 : decode cX5_endedSo 73 = .ok (.iconst 1, 1) := by decide +kernel
theorem dX5_endedSo_74 : decode cX5_endedSo 74 = .ok (.ireturn, 1) := by decide +kernel
theorem dX5_whoEnded_0 : decode cX5_whoEnded 0 = .ok (.aload_n 0, 1) := by decide +kernel
theorem dX5_whoEnded_1 : decode cX5_whoEnded 1 = .ok (.iload_n 1, 1) := by decide +kernel
theorem dX5_whoEnded_2 : decode cX5_whoEnded 2 = .ok (.invokevirtual 108, 3) := by decide +kernel
theorem dX5_whoEnded_5 : decode cX5_whoEnded 5 = .ok (.ifCond .ne 9, 3) := by decide +kernel
theorem dX5_whoEnded_8 : decode cX5_whoEnded 8 = .ok (.aload_n 0, 1) := by decide +kernel
theorem dX5_whoEnded_9 : decode cX5_whoEnded 9 = .ok (.iconst (-1), 1) := by decide +kernel
theorem dX5_whoEnded_10 : decode cX5_whoEnded 10 = .ok (.invokevirtual 69, 3) := by decide +kernel
theorem dX5_whoEnded_13 : decode cX5_whoEnded 13 = .ok (.ireturn, 1) := by decide +kernel
theorem dX5_whoEnded_14 : decode cX5_whoEnded 14 = .ok (.iconst 0, 1) := by decide +kernel
theorem dX5_whoEnded_15 : decode cX5_whoEnded 15 = .ok (.istore_n 2, 1) := by decide +kernel
theorem dX5_whoEnded_16 : decode cX5_whoEnded 16 = .ok (.iconst 0, 1) := by decide +kernel
theorem dX5_whoEnded_17 : decode cX5_whoEnded 17 = .ok (.istore_n 3, 1) := by decide +kernel
theorem dX5_whoEnded_18 : decode cX5_whoEnded 18 = .ok (.iload_n 3, 1) := by decide +kernel
theorem dX5_whoEnded_19 : decode cX5_whoEnded 19 = .ok (.aload_n 0, 1) := by decide +kernel
theorem dX5_whoEnded_20 : decode cX5_whoEnded 20 = .ok (.getfield 55, 3) := by decide +kernel
theorem dX5_whoEnded_23 : decode cX5_whoEnded 23 = .ok (.if_icmp .ge 33, 3) := by decide +kernel
theorem dX5_whoEnded_26 : decode cX5_whoEnded 26 = .ok (.iload_n 2, 1) := by decide +kernel
theorem dX5_whoEnded_27 : decode cX5_whoEnded 27 = .ok (.iload_n 3, 1) := by decide +kernel
theorem dX5_whoEnded_28 : decode cX5_whoEnded 28 = .ok (.iload_n 1, 1) := by decide +kernel
theorem dX5_whoEnded_29 : decode cX5_whoEnded 29 = .ok (.if_icmp .eq 18, 3) := by decide +kernel
theorem dX5_whoEnded_32 : decode cX5_whoEnded 32 = .ok (.aload_n 0, 1) := by decide +kernel
theorem dX5_whoEnded_33 : decode cX5_whoEnded 33 = .ok (.iload_n 1, 1) := by decide +kernel
theorem dX5_whoEnded_34 : decode cX5_whoEnded 34 = .ok (.iload_n 3, 1) := by decide +kernel
theorem dX5_whoEnded_35 : decode cX5_whoEnded 35 = .ok (.invokevirtual 260, 3) := by decide +kernel
theorem dX5_whoEnded_38 : decode cX5_whoEnded 38 = .ok (.ifCond .eq 9, 3) := by decide +kernel
theorem dX5_whoEnded_41 : decode cX5_whoEnded 41 = .ok (.iconst 1, 1) := by decide +kernel
theorem dX5_whoEnded_42 : decode cX5_whoEnded 42 = .ok (.iload_n 3, 1) := by decide +kernel
theorem dX5_whoEnded_43 : decode cX5_whoEnded 43 = .ok (.ishl, 1) := by decide +kernel
theorem dX5_whoEnded_44 : decode cX5_whoEnded 44 = .ok (.goto 4, 3) := by decide +kernel
theorem dX5_whoEnded_47 : decode cX5_whoEnded 47 = .ok (.iconst 0, 1) := by decide +kernel
theorem dX5_whoEnded_48 : decode cX5_whoEnded 48 = .ok (.ior, 1) := by decide +kernel
theorem dX5_whoEnded_49 : decode cX5_whoEnded 49 = .ok (.istore_n 2, 1) := by decide +kernel
theorem dX5_whoEnded_50 : decode cX5_whoEnded 50 = .ok (.iinc 3 1, 3) := by decide +kernel
theorem dX5_whoEnded_53 : decode cX5_whoEnded 53 = .ok (.goto (-35), 3) := by decide +kernel
theorem dX5_whoEnded_56 : decode cX5_whoEnded 56 = .ok (.iload_n 2, 1) := by decide +kernel
theorem dX5_whoEnded_57 : decode cX5_whoEnded 57 = .ok (.ireturn, 1) := by decide +kernel
theorem dX5_isFamedSo_0 : decode cX5_isFamedSo 0 = .ok (.aload_n 0, 1) := by decide +kernel
theorem dX5_isFamedSo_1 : decode cX5_isFamedSo 1 = .ok (.invokevirtual 200, 3) := by decide +kernel
theorem dX5_isFamedSo_4 : decode cX5_isFamedSo 4 = .ok (.iconst 1, 1) := by decide +kernel
theorem dX5_isFamedSo_5 : decode cX5_isFamedSo 5 = .ok (.istore_n 2, 1) := by decide +kernel
theorem dX5_isFamedSo_6 : decode cX5_isFamedSo 6 = .ok (.iconst 0, 1) := by decide +kernel
theorem dX5_isFamedSo_7 : decode cX5_isFamedSo 7 = .ok (.istore_n 3, 1) := by decide +kernel
theorem dX5_isFamedSo_8 : decode cX5_isFamedSo 8 = .ok (.iload_n 3, 1) := by decide +kernel
theorem dX5_isFamedSo_9 : decode cX5_isFamedSo 9 = .ok (.aload_n 0, 1) := by decide +kernel
theorem dX5_isFamedSo_10 : decode cX5_isFamedSo 10 = .ok (.getfield 257, 3) := by decide +kernel
theorem dX5_isFamedSo_13 : decode cX5_isFamedSo 13 = .ok (.if_icmp .ge 39, 3) := by decide +kernel
theorem dX5_isFamedSo_16 : decode cX5_isFamedSo 16 = .ok (.iload_n 2, 1) := by decide +kernel
theorem dX5_isFamedSo_17 : decode cX5_isFamedSo 17 = .ok (.ifCond .eq 35, 3) := by decide +kernel
theorem dX5_isFamedSo_20 : decode cX5_isFamedSo 20 = .ok (.aload_n 0, 1) := by decide +kernel
theorem dX5_isFamedSo_21 : decode cX5_isFamedSo 21 = .ok (.getfield 22, 3) := by decide +kernel
theorem dX5_isFamedSo_24 : decode cX5_isFamedSo 24 = .ok (.iload_n 1, 1) := by decide +kernel
theorem dX5_isFamedSo_25 : decode cX5_isFamedSo 25 = .ok (.iaload, 1) := by decide +kernel
theorem dX5_isFamedSo_26 : decode cX5_isFamedSo 26 = .ok (.aload_n 0, 1) := by decide +kernel
theorem dX5_isFamedSo_27 : decode cX5_isFamedSo 27 = .ok (.getfield 52, 3) := by decide +kernel
theorem dX5_isFamedSo_30 : decode cX5_isFamedSo 30 = .ok (.iload_n 3, 1) := by decide +kernel
theorem dX5_isFamedSo_31 : decode cX5_isFamedSo 31 = .ok (.iaload, 1) := by decide +kernel
theorem dX5_isFamedSo_32 : decode cX5_isFamedSo 32 = .ok (.if_icmp .ne 7, 3) := by decide +kernel
theorem dX5_isFamedSo_35 : decode cX5_isFamedSo 35 = .ok (.iconst 1, 1) := by decide +kernel
theorem dX5_isFamedSo_36 : decode cX5_isFamedSo 36 = .ok (.goto 4, 3) := by decide +kernel
theorem dX5_isFamedSo_39 : decode cX5_isFamedSo 39 = .ok (.iconst 0, 1) := by decide +kernel
theorem dX5_isFamedSo_40 : decode cX5_isFamedSo 40 = .ok (.istore_n 2, 1) := by decide +kernel
theorem dX5_isFamedSo_41 : decode cX5_isFamedSo 41 = .ok (.aload_n 0, 1) := by decide +kernel
theorem dX5_isFamedSo_42 : decode cX5_isFamedSo 42 = .ok (.iconst 0, 1) := by decide +kernel
theorem dX5_isFamedSo_43 : decode cX5_isFamedSo 43 = .ok (.invokevirtual 189, 3) := by decide +kernel
theorem dX5_isFamedSo_46 : decode cX5_isFamedSo 46 = .ok (.iinc 3 1, 3) := by decide +kernel
theorem dX5_isFamedSo_49 : decode cX5_isFamedSo 49 = .ok (.goto (-41), 3) := by decide +kernel
theorem dX5_isFamedSo_52 : decode cX5_isFamedSo 52 = .ok (.aload_n 0, 1) := by decide +kernel
theorem dX5_isFamedSo_53 : decode cX5_isFamedSo 53 = .ok (.invokevirtual 203, 3) := by decide +kernel
theorem dX5_isFamedSo_56 : decode cX5_isFamedSo 56 = .ok (.iload_n 2, 1) := by decide +kernel
theorem dX5_isFamedSo_57 : decode cX5_isFamedSo 57 = .ok (.ireturn, 1) := by decide +kernel
theorem dX5_bitsFor_0 : decode cX5_bitsFor 0 = .ok (.aload_n 1, 1) := by decide +kernel
theorem dX5_bitsFor_1 : decode cX5_bitsFor 1 = .ok (.iload_n 2, 1) := by decide +kernel
theorem dX5_bitsFor_2 : decode cX5_bitsFor 2 = .ok (.iaload, 1) := by decide +kernel
theorem dX5_bitsFor_3 : decode cX5_bitsFor 3 = .ok (.istore 5, 2) := by decide +kernel
theorem dX5_bitsFor_5 : decode cX5_bitsFor 5 = .ok (.iconst 0, 1) := by decide +kernel
theorem dX5_bitsFor_6 : decode cX5_bitsFor 6 = .ok (.istore 6, 2) := by decide +kernel
theorem dX5_bitsFor_8 : decode cX5_bitsFor 8 = .ok (.iconst 0, 1) := by decide +kernel
theorem dX5_bitsFor_9 : decode cX5_bitsFor 9 = .ok (.istore 7, 2) := by decide +kernel
theorem dX5_bitsFor_11 : decode cX5_bitsFor 11 = .ok (.iload 7, 2) := by decide +kernel
theorem dX5_bitsFor_13 : decode cX5_bitsFor 13 = .ok (.iload 4, 2) := by decide +kernel
theorem dX5_bitsFor_15 : decode cX5_bitsFor 15 = .ok (.if_icmp .ge 35, 3) := by decide +kernel
theorem dX5_bitsFor_18 : decode cX5_bitsFor 18 = .ok (.aload_n 1, 1) := by decide +kernel
theorem dX5_bitsFor_19 : decode cX5_bitsFor 19 = .ok (.iload_n 2, 1) := by decide +kernel
theorem dX5_bitsFor_20 : decode cX5_bitsFor 20 = .ok (.iload 7, 2) := by decide +kernel
theorem dX5_bitsFor_22 : decode cX5_bitsFor 22 = .ok (.iastore, 1) := by decide +kernel
theorem dX5_bitsFor_23 : decode cX5_bitsFor 23 = .ok (.iload 6, 2) := by decide +kernel
theorem dX5_bitsFor_25 : decode cX5_bitsFor 25 = .ok (.aload_n 0, 1) := by decide +kernel
theorem dX5_bitsFor_26 : decode cX5_bitsFor 26 = .ok (.iload_n 3, 1) := by decide +kernel
theorem dX5_bitsFor_27 : decode cX5_bitsFor 27 = .ok (.invokevirtual 263, 3) := by decide +kernel
theorem dX5_bitsFor_30 : decode cX5_bitsFor 30 = .ok (.ifCond .eq 10, 3) := by decide +kernel
theorem dX5_bitsFor_33 : decode cX5_bitsFor 33 = .ok (.iconst 1, 1) := by decide +kernel
theorem dX5_bitsFor_34 : decode cX5_bitsFor 34 = .ok (.iload 7, 2) := by decide +kernel
theorem dX5_bitsFor_36 : decode cX5_bitsFor 36 = .ok (.ishl, 1) := by decide +kernel
theorem dX5_bitsFor_37 : decode cX5_bitsFor 37 = .ok (.goto 4, 3) := by decide +kernel
theorem dX5_bitsFor_40 : decode cX5_bitsFor 40 = .ok (.iconst 0, 1) := by decide +kernel
theorem dX5_bitsFor_41 : decode cX5_bitsFor 41 = .ok (.ior, 1) := by decide +kernel
theorem dX5_bitsFor_42 : decode cX5_bitsFor 42 = .ok (.istore 6, 2) := by decide +kernel
theorem dX5_bitsFor_44 : decode cX5_bitsFor 44 = .ok (.iinc 7 1, 3) := by decide +kernel
theorem dX5_bitsFor_47 : decode cX5_bitsFor 47 = .ok (.goto (-36), 3) := by decide +kernel
theorem dX5_bitsFor_50 : decode cX5_bitsFor 50 = .ok (.aload_n 1, 1) := by decide +kernel
theorem dX5_bitsFor_51 : decode cX5_bitsFor 51 = .ok (.iload_n 2, 1) := by decide +kernel
theorem dX5_bitsFor_52 : decode cX5_bitsFor 52 = .ok (.iload 5, 2) := by decide +kernel
theorem dX5_bitsFor_54 : decode cX5_bitsFor 54 = .ok (.iastore, 1) := by decide +kernel
theorem dX5_bitsFor_55 : decode cX5_bitsFor 55 = .ok (.iload 6, 2) := by decide +kernel
theorem dX5_bitsFor_57 : decode cX5_bitsFor 57 = .ok (.ireturn, 1) := by decide +kernel
theorem dX5_whatIs_0 : decode cX5_whatIs 0 = .ok (.aload_n 0, 1) := by decide +kernel
theorem dX5_whatIs_1 : decode cX5_whatIs 1 = .ok (.iload_n 1, 1) := by decide +kernel
theorem dX5_whatIs_2 : decode cX5_whatIs 2 = .ok (.invokevirtual 108, 3) := by decide +kernel
theorem dX5_whatIs_5 : decode cX5_whatIs 5 = .ok (.ifCond .ne 7, 3) := by decide +kernel
theorem dX5_whatIs_8 : decode cX5_whatIs 8 = .ok (.iconst (-1), 1) := by decide +kernel
theorem dX5_whatIs_9 : decode cX5_whatIs 9 = .ok (.goto 18, 3) := by decide +kernel
theorem dX5_whatIs_12 : decode cX5_whatIs 12 = .ok (.iload_n 2, 1) := by decide +kernel
theorem dX5_whatIs_13 : decode cX5_whatIs 13 = .ok (.iconst 0, 1) := by decide +kernel
theorem dX5_whatIs_14 : decode cX5_whatIs 14 = .ok (.iconst 1, 1) := by decide +kernel
theorem dX5_whatIs_15 : decode cX5_whatIs 15 = .ok (.invokestatic 80, 3) := by decide +kernel
theorem dX5_whatIs_18 : decode cX5_whatIs 18 = .ok (.ifCond .ne 8, 3) := by decide +kernel
theorem dX5_whatIs_21 : decode cX5_whatIs 21 = .ok (.bipush (-2), 2) := by decide +kernel
theorem dX5_whatIs_23 : decode cX5_whatIs 23 = .ok (.goto 4, 3) := by decide +kernel
theorem dX5_whatIs_26 : decode cX5_whatIs 26 = .ok (.iconst 0, 1) := by decide +kernel
theorem dX5_whatIs_27 : decode cX5_whatIs 27 = .ok (.istore_n 3, 1) := by decide +kernel
theorem dX5_whatIs_28 : decode cX5_whatIs 28 = .ok (.iload_n 3, 1) := by decide +kernel
theorem dX5_whatIs_29 : decode cX5_whatIs 29 = .ok (.ifCond .eq 9, 3) := by decide +kernel
theorem dX5_whatIs_32 : decode cX5_whatIs 32 = .ok (.aload_n 0, 1) := by decide +kernel
theorem dX5_whatIs_33 : decode cX5_whatIs 33 = .ok (.iload_n 3, 1) := by decide +kernel
theorem dX5_whatIs_34 : decode cX5_whatIs 34 = .ok (.invokevirtual 69, 3) := by decide +kernel
theorem dX5_whatIs_37 : decode cX5_whatIs 37 = .ok (.ireturn, 1) := by decide +kernel
theorem dX5_whatIs_38 : decode cX5_whatIs 38 = .ok (.aload_n 0, 1) := by decide +kernel
theorem dX5_whatIs_39 : decode cX5_whatIs 39 = .ok (.iload_n 1, 1) := by decide +kernel
theorem dX5_whatIs_40 : decode cX5_whatIs 40 = .ok (.invokevirtual 162, 3) := by decide +kernel
theorem dX5_whatIs_43 : decode cX5_whatIs 43 = .ok (.istore 4, 2) := by decide +kernel
theorem dX5_whatIs_45 : decode cX5_whatIs 45 = .ok (.iload 4, 2) := by decide +kernel
theorem dX5_whatIs_47 : decode cX5_whatIs 47 = .ok (.ifCond .ge 7, 3) := by decide +kernel
theorem dX5_whatIs_50 : decode cX5_whatIs 50 = .ok (.iconst 0, 1) := by decide +kernel
theorem dX5_whatIs_51 : decode cX5_whatIs 51 = .ok (.goto 36, 3) := by decide +kernel
theorem dX5_whatIs_54 : decode cX5_whatIs 54 = .ok (.iload_n 2, 1) := by decide +kernel
theorem dX5_whatIs_55 : decode cX5_whatIs 55 = .ok (.ifCond .ne 19, 3) := by decide +kernel
theorem dX5_whatIs_58 : decode cX5_whatIs 58 = .ok (.aload_n 0, 1) := by decide +kernel
theorem dX5_whatIs_59 : decode cX5_whatIs 59 = .ok (.aload_n 0, 1) := by decide +kernel
theorem dX5_whatIs_60 : decode cX5_whatIs 60 = .ok (.getfield 13, 3) := by decide +kernel
theorem dX5_whatIs_63 : decode cX5_whatIs 63 = .ok (.iload 4, 2) := by decide +kernel
theorem dX5_whatIs_65 : decode cX5_whatIs 65 = .ok (.iload_n 1, 1) := by decide +kernel
theorem dX5_whatIs_66 : decode cX5_whatIs 66 = .ok (.bipush 6, 2) := by decide +kernel
theorem dX5_whatIs_68 : decode cX5_whatIs 68 = .ok (.invokevirtual 266, 3) := by decide +kernel
theorem dX5_whatIs_71 : decode cX5_whatIs 71 = .ok (.goto 16, 3) := by decide +kernel
theorem dX5_whatIs_74 : decode cX5_whatIs 74 = .ok (.aload_n 0, 1) := by decide +kernel
theorem dX5_whatIs_75 : decode cX5_whatIs 75 = .ok (.aload_n 0, 1) := by decide +kernel
theorem dX5_whatIs_76 : decode cX5_whatIs 76 = .ok (.getfield 16, 3) := by decide +kernel
theorem dX5_whatIs_79 : decode cX5_whatIs 79 = .ok (.iload 4, 2) := by decide +kernel
theorem dX5_whatIs_81 : decode cX5_whatIs 81 = .ok (.iload_n 1, 1) := by decide +kernel
theorem dX5_whatIs_82 : decode cX5_whatIs 82 = .ok (.bipush 10, 2) := by decide +kernel
theorem dX5_whatIs_84 : decode cX5_whatIs 84 = .ok (.invokevirtual 266, 3) := by decide +kernel
theorem dX5_whatIs_87 : decode cX5_whatIs 87 = .ok (.ireturn, 1) := by decide +kernel
theorem dX5_row_0 : decode cX5_row 0 = .ok (.iload_n 1, 1) := by decide +kernel
theorem dX5_row_1 : decode cX5_row 1 = .ok (.iconst 0, 1) := by decide +kernel
theorem dX5_row_2 : decode cX5_row 2 = .ok (.bipush 99, 2) := by decide +kernel
theorem dX5_row_4 : decode cX5_row 4 = .ok (.invokestatic 62, 3) := by decide +kernel
theorem dX5_row_7 : decode cX5_row 7 = .ok (.istore_n 2, 1) := by decide +kernel
theorem dX5_row_8 : decode cX5_row 8 = .ok (.iload_n 2, 1) := by decide +kernel
theorem dX5_row_9 : decode cX5_row 9 = .ok (.ifCond .ne 15, 3) := by decide +kernel
theorem dX5_row_12 : decode cX5_row 12 = .ok (.aload_n 0, 1) := by decide +kernel
theorem dX5_row_13 : decode cX5_row 13 = .ok (.getfield 257, 3) := by decide +kernel
theorem dX5_row_16 : decode cX5_row 16 = .ok (.bipush 16, 2) := by decide +kernel
theorem dX5_row_18 : decode cX5_row 18 = .ok (.if_icmp .ne 6, 3) := by decide +kernel
theorem dX5_row_21 : decode cX5_row 21 = .ok (.bipush (-6), 2) := by decide +kernel
theorem dX5_row_23 : decode cX5_row 23 = .ok (.istore_n 2, 1) := by decide +kernel
theorem dX5_row_24 : decode cX5_row 24 = .ok (.iload_n 2, 1) := by decide +kernel
theorem dX5_row_25 : decode cX5_row 25 = .ok (.ifCond .eq 9, 3) := by decide +kernel
theorem dX5_row_28 : decode cX5_row 28 = .ok (.aload_n 0, 1) := by decide +kernel
theorem dX5_row_29 : decode cX5_row 29 = .ok (.iload_n 2, 1) := by decide +kernel
theorem dX5_row_30 : decode cX5_row 30 = .ok (.invokevirtual 69, 3) := by decide +kernel
theorem dX5_row_33 : decode cX5_row 33 = .ok (.ireturn, 1) := by decide +kernel
theorem dX5_row_34 : decode cX5_row 34 = .ok (.aload_n 0, 1) := by decide +kernel
theorem dX5_row_35 : decode cX5_row 35 = .ok (.getfield 52, 3) := by decide +kernel
theorem dX5_row_38 : decode cX5_row 38 = .ok (.aload_n 0, 1) := by decide +kernel
theorem dX5_row_39 : decode cX5_row 39 = .ok (.getfield 257, 3) := by decide +kernel
theorem dX5_row_42 : decode cX5_row 42 = .ok (.iload_n 1, 1) := by decide +kernel
theorem dX5_row_43 : decode cX5_row 43 = .ok (.iastore, 1) := by decide +kernel
theorem dX5_row_44 : decode cX5_row 44 = .ok (.aload_n 0, 1) := by decide +kernel
theorem dX5_row_45 : decode cX5_row 45 = .ok (.dup, 1) := by decide +kernel
theorem dX5_row_46 : decode cX5_row 46 = .ok (.getfield 257, 3) := by decide +kernel
theorem dX5_row_49 : decode cX5_row 49 = .ok (.iconst 1, 1) := by decide +kernel
theorem dX5_row_50 : decode cX5_row 50 = .ok (.iadd, 1) := by decide +kernel
theorem dX5_row_51 : decode cX5_row 51 = .ok (.putfield 257, 3) := by decide +kernel
theorem dX5_row_54 : decode cX5_row 54 = .ok (.aload_n 0, 1) := by decide +kernel
theorem dX5_row_55 : decode cX5_row 55 = .ok (.getfield 257, 3) := by decide +kernel
theorem dX5_row_58 : decode cX5_row 58 = .ok (.ireturn, 1) := by decide +kernel
theorem dX5_judge_0 : decode cX5_judge 0 = .ok (.aload_n 0, 1) := by decide +kernel
theorem dX5_judge_1 : decode cX5_judge 1 = .ok (.getfield 257, 3) := by decide +kernel
theorem dX5_judge_4 : decode cX5_judge 4 = .ok (.istore_n 1, 1) := by decide +kernel
theorem dX5_judge_5 : decode cX5_judge 5 = .ok (.aload_n 0, 1) := by decide +kernel
theorem dX5_judge_6 : decode cX5_judge 6 = .ok (.iconst 0, 1) := by decide +kernel
theorem dX5_judge_7 : decode cX5_judge 7 = .ok (.putfield 257, 3) := by decide +kernel
theorem dX5_judge_10 : decode cX5_judge 10 = .ok (.iconst 0, 1) := by decide +kernel
theorem dX5_judge_11 : decode cX5_judge 11 = .ok (.istore_n 2, 1) := by decide +kernel
theorem dX5_judge_12 : decode cX5_judge 12 = .ok (.iload_n 2, 1) := by decide +kernel
theorem dX5_judge_13 : decode cX5_judge 13 = .ok (.iload_n 1, 1) := by decide +kernel
theorem dX5_judge_14 : decode cX5_judge 14 = .ok (.if_icmp .ge 46, 3) := by decide +kernel
theorem dX5_judge_17 : decode cX5_judge 17 = .ok (.iload_n 2, 1) := by decide +kernel
theorem dX5_judge_18 : decode cX5_judge 18 = .ok (.aload_n 0, 1) := by decide +kernel
theorem dX5_judge_19 : decode cX5_judge 19 = .ok (.getfield 55, 3) := by decide +kernel
theorem dX5_judge_22 : decode cX5_judge 22 = .ok (.if_icmp .ge 30, 3) := by decide +kernel
theorem dX5_judge_25 : decode cX5_judge 25 = .ok (.aload_n 0, 1) := by decide +kernel
theorem dX5_judge_26 : decode cX5_judge 26 = .ok (.iload_n 2, 1) := by decide +kernel
theorem dX5_judge_27 : decode cX5_judge 27 = .ok (.invokevirtual 177, 3) := by decide +kernel
theorem dX5_judge_30 : decode cX5_judge 30 = .ok (.ifCond .eq 11, 3) := by decide +kernel
theorem dX5_judge_33 : decode cX5_judge 33 = .ok (.aload_n 0, 1) := by decide +kernel
theorem dX5_judge_34 : decode cX5_judge 34 = .ok (.iload_n 2, 1) := by decide +kernel
theorem dX5_judge_35 : decode cX5_judge 35 = .ok (.invokevirtual 171, 3) := by decide +kernel
theorem dX5_judge_38 : decode cX5_judge 38 = .ok (.goto 5, 3) := by decide +kernel
theorem dX5_judge_41 : decode cX5_judge 41 = .ok (.bipush 10, 2) := by decide +kernel
theorem dX5_judge_43 : decode cX5_judge 43 = .ok (.aload_n 0, 1) := by decide +kernel
theorem dX5_judge_44 : decode cX5_judge 44 = .ok (.getfield 52, 3) := by decide +kernel
theorem dX5_judge_47 : decode cX5_judge 47 = .ok (.iload_n 2, 1) := by decide +kernel
theorem dX5_judge_48 : decode cX5_judge 48 = .ok (.iaload, 1) := by decide +kernel
theorem dX5_judge_49 : decode cX5_judge 49 = .ok (.if_icmp .eq 5, 3) := by decide +kernel
theorem dX5_judge_52 : decode cX5_judge 52 = .ok (.iload_n 2, 1) := by decide +kernel
theorem dX5_judge_53 : decode cX5_judge 53 = .ok (.ireturn, 1) := by decide +kernel
theorem dX5_judge_54 : decode cX5_judge 54 = .ok (.iinc 2 1, 3) := by decide +kernel
theorem dX5_judge_57 : decode cX5_judge 57 = .ok (.goto (-45), 3) := by decide +kernel
theorem dX5_judge_60 : decode cX5_judge 60 = .ok (.bipush (-9), 2) := by decide +kernel
theorem dX5_judge_62 : decode cX5_judge 62 = .ok (.ireturn, 1) := by decide +kernel
theorem dX5_clear_0 : decode cX5_clear 0 = .ok (.aload_n 0, 1) := by decide +kernel
theorem dX5_clear_1 : decode cX5_clear 1 = .ok (.getfield 257, 3) := by decide +kernel
theorem dX5_clear_4 : decode cX5_clear 4 = .ok (.istore_n 1, 1) := by decide +kernel
theorem dX5_clear_5 : decode cX5_clear 5 = .ok (.aload_n 0, 1) := by decide +kernel
theorem dX5_clear_6 : decode cX5_clear 6 = .ok (.iconst 0, 1) := by decide +kernel
theorem dX5_clear_7 : decode cX5_clear 7 = .ok (.putfield 257, 3) := by decide +kernel
theorem dX5_clear_10 : decode cX5_clear 10 = .ok (.iload_n 1, 1) := by decide +kernel
theorem dX5_clear_11 : decode cX5_clear 11 = .ok (.ireturn, 1) := by decide +kernel
theorem dX5_forgottenOnes_0 : decode cX5_forgottenOnes 0 = .ok (.iconst 0, 1) := by decide +kernel
theorem dX5_forgottenOnes_1 : decode cX5_forgottenOnes 1 = .ok (.istore_n 1, 1) := by decide +kernel
theorem dX5_forgottenOnes_2 : decode cX5_forgottenOnes 2 = .ok (.iconst 0, 1) := by decide +kernel
theorem dX5_forgottenOnes_3 : decode cX5_forgottenOnes 3 = .ok (.istore_n 2, 1) := by decide +kernel
theorem dX5_forgottenOnes_4 : decode cX5_forgottenOnes 4 = .ok (.iload_n 2, 1) := by decide +kernel
theorem dX5_forgottenOnes_5 : decode cX5_forgottenOnes 5 = .ok (.aload_n 0, 1) := by decide +kernel
theorem dX5_forgottenOnes_6 : decode cX5_forgottenOnes 6 = .ok (.getfield 55, 3) := by decide +kernel
theorem dX5_forgottenOnes_9 : decode cX5_forgottenOnes 9 = .ok (.if_icmp .ge 26, 3) := by decide +kernel
theorem dX5_forgottenOnes_12 : decode cX5_forgottenOnes 12 = .ok (.iload_n 1, 1) := by decide +kernel
theorem dX5_forgottenOnes_13 : decode cX5_forgottenOnes 13 = .ok (.aload_n 0, 1) := by decide +kernel
theorem dX5_forgottenOnes_14 : decode cX5_forgottenOnes 14 = .ok (.getfield 22, 3) := by decide +kernel
theorem dX5_forgottenOnes_17 : decode cX5_forgottenOnes 17 = .ok (.iload_n 2, 1) := by decide +kernel
theorem dX5_forgottenOnes_18 : decode cX5_forgottenOnes 18 = .ok (.iaload, 1) := by decide +kernel
theorem dX5_forgottenOnes_19 : decode cX5_forgottenOnes 19 = .ok (.ifCond .ne 7, 3) := by decide +kernel
theorem dX5_forgottenOnes_22 : decode cX5_forgottenOnes 22 = .ok (.iconst 1, 1) := by decide +kernel
theorem dX5_forgottenOnes_23 : decode cX5_forgottenOnes 23 = .ok (.goto 4, 3) := by decide +kernel
theorem dX5_forgottenOnes_26 : decode cX5_forgottenOnes 26 = .ok (.iconst 0, 1) := by decide +kernel
theorem dX5_forgottenOnes_27 : decode cX5_forgottenOnes 27 = .ok (.iadd, 1) := by decide +kernel
theorem dX5_forgottenOnes_28 : decode cX5_forgottenOnes 28 = .ok (.istore_n 1, 1) := by decide +kernel
theorem dX5_forgottenOnes_29 : decode cX5_forgottenOnes 29 = .ok (.iinc 2 1, 3) := by decide +kernel
theorem dX5_forgottenOnes_32 : decode cX5_forgottenOnes 32 = .ok (.goto (-28), 3) := by decide +kernel
theorem dX5_forgottenOnes_35 : decode cX5_forgottenOnes 35 = .ok (.iload_n 1, 1) := by decide +kernel
theorem dX5_forgottenOnes_36 : decode cX5_forgottenOnes 36 = .ok (.ireturn, 1) := by decide +kernel
theorem dX5_lots_0 : decode cX5_lots 0 = .ok (.iload_n 1, 1) := by decide +kernel
theorem dX5_lots_1 : decode cX5_lots 1 = .ok (.iconst 1, 1) := by decide +kernel
theorem dX5_lots_2 : decode cX5_lots 2 = .ok (.bipush 20, 2) := by decide +kernel
theorem dX5_lots_4 : decode cX5_lots 4 = .ok (.invokestatic 62, 3) := by decide +kernel
theorem dX5_lots_7 : decode cX5_lots 7 = .ok (.istore 4, 2) := by decide +kernel
theorem dX5_lots_9 : decode cX5_lots 9 = .ok (.iload 4, 2) := by decide +kernel
theorem dX5_lots_11 : decode cX5_lots 11 = .ok (.ifCond .ne 16, 3) := by decide +kernel
theorem dX5_lots_14 : decode cX5_lots 14 = .ok (.iload_n 3, 1) := by decide +kernel
theorem dX5_lots_15 : decode cX5_lots 15 = .ok (.iconst 0, 1) := by decide +kernel
theorem dX5_lots_16 : decode cX5_lots 16 = .ok (.iconst 1, 1) := by decide +kernel
theorem dX5_lots_17 : decode cX5_lots 17 = .ok (.invokestatic 80, 3) := by decide +kernel
theorem dX5_lots_20 : decode cX5_lots 20 = .ok (.ifCond .ne 7, 3) := by decide +kernel
theorem dX5_lots_23 : decode cX5_lots 23 = .ok (.bipush (-2), 2) := by decide +kernel
theorem dX5_lots_25 : decode cX5_lots 25 = .ok (.istore 4, 2) := by decide +kernel
theorem dX5_lots_27 : decode cX5_lots 27 = .ok (.iload 4, 2) := by decide +kernel
theorem dX5_lots_29 : decode cX5_lots 29 = .ok (.ifCond .eq 10, 3) := by decide +kernel
theorem dX5_lots_32 : decode cX5_lots 32 = .ok (.aload_n 0, 1) := by decide +kernel
theorem dX5_lots_33 : decode cX5_lots 33 = .ok (.iload 4, 2) := by decide +kernel
theorem dX5_lots_35 : decode cX5_lots 35 = .ok (.invokevirtual 69, 3) := by decide +kernel
theorem dX5_lots_38 : decode cX5_lots 38 = .ok (.ireturn, 1) := by decide +kernel
theorem dX5_lots_39 : decode cX5_lots 39 = .ok (.iload_n 2, 1) := by decide +kernel
theorem dX5_lots_40 : decode cX5_lots 40 = .ok (.istore 5, 2) := by decide +kernel
theorem dX5_lots_42 : decode cX5_lots 42 = .ok (.iconst 0, 1) := by decide +kernel
theorem dX5_lots_43 : decode cX5_lots 43 = .ok (.istore 6, 2) := by decide +kernel
theorem dX5_lots_45 : decode cX5_lots 45 = .ok (.iconst 0, 1) := by decide +kernel
theorem dX5_lots_46 : decode cX5_lots 46 = .ok (.istore 7, 2) := by decide +kernel
theorem dX5_lots_48 : decode cX5_lots 48 = .ok (.iload 7, 2) := by decide +kernel
theorem dX5_lots_50 : decode cX5_lots 50 = .ok (.iload_n 1, 1) := by decide +kernel
theorem dX5_lots_51 : decode cX5_lots 51 = .ok (.if_icmp .ge 97, 3) := by decide +kernel
theorem dX5_lots_54 : decode cX5_lots 54 = .ok (.aload_n 0, 1) := by decide +kernel
theorem dX5_lots_55 : decode cX5_lots 55 = .ok (.invokevirtual 200, 3) := by decide +kernel
theorem dX5_lots_58 : decode cX5_lots 58 = .ok (.iconst 0, 1) := by decide +kernel
theorem dX5_lots_59 : decode cX5_lots 59 = .ok (.istore 8, 2) := by decide +kernel
theorem dX5_lots_61 : decode cX5_lots 61 = .ok (.iload 8, 2) := by decide +kernel
theorem dX5_lots_63 : decode cX5_lots 63 = .ok (.aload_n 0, 1) := by decide +kernel
theorem dX5_lots_64 : decode cX5_lots 64 = .ok (.getfield 55, 3) := by decide +kernel
theorem dX5_lots_67 : decode cX5_lots 67 = .ok (.if_icmp .ge 41, 3) := by decide +kernel
theorem dX5_lots_70 : decode cX5_lots 70 = .ok (.iload 5, 2) := by decide +kernel
theorem dX5_lots_72 : decode cX5_lots 72 = .ok (.ldc_w 270, 3) := by decide +kernel
theorem dX5_lots_75 : decode cX5_lots 75 = .ok (.imul, 1) := by decide +kernel
theorem dX5_lots_76 : decode cX5_lots 76 = .ok (.ldc_w 271, 3) := by decide +kernel
theorem dX5_lots_79 : decode cX5_lots 79 = .ok (.iadd, 1) := by decide +kernel
theorem dX5_lots_80 : decode cX5_lots 80 = .ok (.istore 5, 2) := by decide +kernel
theorem dX5_lots_82 : decode cX5_lots 82 = .ok (.aload_n 0, 1) := by decide +kernel
theorem dX5_lots_83 : decode cX5_lots 83 = .ok (.getfield 19, 3) := by decide +kernel
theorem dX5_lots_86 : decode cX5_lots 86 = .ok (.iload 8, 2) := by decide +kernel
theorem dX5_lots_88 : decode cX5_lots 88 = .ok (.iload 5, 2) := by decide +kernel
theorem dX5_lots_90 : decode cX5_lots 90 = .ok (.ldc_w 272, 3) := by decide +kernel
theorem dX5_lots_93 : decode cX5_lots 93 = .ok (.iand, 1) := by decide +kernel
theorem dX5_lots_94 : decode cX5_lots 94 = .ok (.sipush 256, 3) := by decide +kernel
theorem dX5_lots_97 : decode cX5_lots 97 = .ok (.idiv, 1) := by decide +kernel
theorem dX5_lots_98 : decode cX5_lots 98 = .ok (.bipush 10, 2) := by decide +kernel
theorem dX5_lots_100 : decode cX5_lots 100 = .ok (.irem, 1) := by decide +kernel
theorem dX5_lots_101 : decode cX5_lots 101 = .ok (.iastore, 1) := by decide +kernel
theorem dX5_lots_102 : decode cX5_lots 102 = .ok (.iinc 8 1, 3) := by decide +kernel
theorem dX5_lots_105 : decode cX5_lots 105 = .ok (.goto (-44), 3) := by decide +kernel
theorem dX5_lots_108 : decode cX5_lots 108 = .ok (.aload_n 0, 1) := by decide +kernel
theorem dX5_lots_109 : decode cX5_lots 109 = .ok (.bipush 10, 2) := by decide +kernel
theorem dX5_lots_111 : decode cX5_lots 111 = .ok (.invokevirtual 104, 3) := by decide +kernel
theorem dX5_lots_114 : decode cX5_lots 114 = .ok (.iload 6, 2) := by decide +kernel
theorem dX5_lots_116 : decode cX5_lots 116 = .ok (.iload_n 3, 1) := by decide +kernel
theorem dX5_lots_117 : decode cX5_lots 117 = .ok (.ifCond .ne 14, 3) := by decide +kernel
theorem dX5_lots_120 : decode cX5_lots 120 = .ok (.aload_n 0, 1) := by decide +kernel
theorem dX5_lots_121 : decode cX5_lots 121 = .ok (.aload_n 0, 1) := by decide +kernel
theorem dX5_lots_122 : decode cX5_lots 122 = .ok (.getfield 22, 3) := by decide +kernel
theorem dX5_lots_125 : decode cX5_lots 125 = .ok (.invokevirtual 196, 3) := by decide +kernel
theorem dX5_lots_128 : decode cX5_lots 128 = .ok (.goto 7, 3) := by decide +kernel
theorem dX5_lots_131 : decode cX5_lots 131 = .ok (.aload_n 0, 1) := by decide +kernel
theorem dX5_lots_132 : decode cX5_lots 132 = .ok (.invokevirtual 273, 3) := by decide +kernel
theorem dX5_lots_135 : decode cX5_lots 135 = .ok (.iadd, 1) := by decide +kernel
theorem dX5_lots_136 : decode cX5_lots 136 = .ok (.istore 6, 2) := by decide +kernel
theorem dX5_lots_138 : decode cX5_lots 138 = .ok (.aload_n 0, 1) := by decide +kernel
theorem dX5_lots_139 : decode cX5_lots 139 = .ok (.invokevirtual 203, 3) := by decide +kernel
theorem dX5_lots_142 : decode cX5_lots 142 = .ok (.iinc 7 1, 3) := by decide +kernel
theorem dX5_lots_145 : decode cX5_lots 145 = .ok (.goto (-97), 3) := by decide +kernel
theorem dX5_lots_148 : decode cX5_lots 148 = .ok (.iload 6, 2) := by decide +kernel
theorem dX5_lots_150 : decode cX5_lots 150 = .ok (.ireturn, 1) := by decide +kernel
theorem dX5_count_0 : decode cX5_count 0 = .ok (.iload_n 1, 1) := by decide +kernel
theorem dX5_count_1 : decode cX5_count 1 = .ok (.bipush 11, 2) := by decide +kernel
theorem dX5_count_3 : decode cX5_count 3 = .ok (.bipush 16, 2) := by decide +kernel
theorem dX5_count_5 : decode cX5_count 5 = .ok (.invokestatic 80, 3) := by decide +kernel
theorem dX5_count_8 : decode cX5_count 8 = .ok (.ifCond .eq 13, 3) := by decide +kernel
theorem dX5_count_11 : decode cX5_count 11 = .ok (.aload_n 0, 1) := by decide +kernel
theorem dX5_count_12 : decode cX5_count 12 = .ok (.getfield 7, 3) := by decide +kernel
theorem dX5_count_15 : decode cX5_count 15 = .ok (.iload_n 1, 1) := by decide +kernel
theorem dX5_count_16 : decode cX5_count 16 = .ok (.bipush 10, 2) := by decide +kernel
theorem dX5_count_18 : decode cX5_count 18 = .ok (.isub, 1) := by decide +kernel
theorem dX5_count_19 : decode cX5_count 19 = .ok (.iaload, 1) := by decide +kernel
theorem dX5_count_20 : decode cX5_count 20 = .ok (.ireturn, 1) := by decide +kernel
theorem dX5_count_21 : decode cX5_count 21 = .ok (.iload_n 1, 1) := by decide +kernel
theorem dX5_count_22 : decode cX5_count 22 = .ok (.tableswitch 97 0 7 #[46, 51, 56, 61, 70, 79, 87, 92], 46) := by decide +kernel
theorem dX5_count_68 : decode cX5_count 68 = .ok (.aload_n 0, 1) := by decide +kernel
theorem dX5_count_69 : decode cX5_count 69 = .ok (.getfield 55, 3) := by decide +kernel
theorem dX5_count_72 : decode cX5_count 72 = .ok (.ireturn, 1) := by decide +kernel
theorem dX5_count_73 : decode cX5_count 73 = .ok (.aload_n 0, 1) := by decide +kernel
theorem dX5_count_74 : decode cX5_count 74 = .ok (.getfield 101, 3) := by decide +kernel
theorem dX5_count_77 : decode cX5_count 77 = .ok (.ireturn, 1) := by decide +kernel
theorem dX5_count_78 : decode cX5_count 78 = .ok (.aload_n 0, 1) := by decide +kernel
theorem dX5_count_79 : decode cX5_count 79 = .ok (.invokevirtual 276, 3) := by decide +kernel
theorem dX5_count_82 : decode cX5_count 82 = .ok (.ireturn, 1) := by decide +kernel
theorem dX5_count_83 : decode cX5_count 83 = .ok (.aload_n 0, 1) := by decide +kernel
theorem dX5_count_84 : decode cX5_count 84 = .ok (.aload_n 0, 1) := by decide +kernel
theorem dX5_count_85 : decode cX5_count 85 = .ok (.getfield 22, 3) := by decide +kernel
theorem dX5_count_88 : decode cX5_count 88 = .ok (.invokevirtual 196, 3) := by decide +kernel
theorem dX5_count_91 : decode cX5_count 91 = .ok (.ireturn, 1) := by decide +kernel
theorem dX5_count_92 : decode cX5_count 92 = .ok (.aload_n 0, 1) := by decide +kernel
theorem dX5_count_93 : decode cX5_count 93 = .ok (.aload_n 0, 1) := by decide +kernel
theorem dX5_count_94 : decode cX5_count 94 = .ok (.getfield 19, 3) := by decide +kernel
theorem dX5_count_97 : decode cX5_count 97 = .ok (.invokevirtual 196, 3) := by decide +kernel
theorem dX5_count_100 : decode cX5_count 100 = .ok (.ireturn, 1) := by decide +kernel
theorem dX5_count_101 : decode cX5_count 101 = .ok (.aload_n 0, 1) := by decide +kernel
theorem dX5_count_102 : decode cX5_count 102 = .ok (.invokevirtual 279, 3) := by decide +kernel
theorem dX5_count_105 : decode cX5_count 105 = .ok (.invokestatic 236, 3) := by decide +kernel
theorem dX5_count_108 : decode cX5_count 108 = .ok (.ireturn, 1) := by decide +kernel
theorem dX5_count_109 : decode cX5_count 109 = .ok (.aload_n 0, 1) := by decide +kernel
theorem dX5_count_110 : decode cX5_count 110 = .ok (.getfield 257, 3) := by decide +kernel
theorem dX5_count_113 : decode cX5_count 113 = .ok (.ireturn, 1) := by decide +kernel
theorem dX5_count_114 : decode cX5_count 114 = .ok (.aload_n 0, 1) := by decide +kernel
theorem dX5_count_115 : decode cX5_count 115 = .ok (.getfield 66, 3) := by decide +kernel
theorem dX5_count_118 : decode cX5_count 118 = .ok (.ireturn, 1) := by decide +kernel
theorem dX5_count_119 : decode cX5_count 119 = .ok (.bipush (-9), 2) := by decide +kernel
theorem dX5_count_121 : decode cX5_count 121 = .ok (.ireturn, 1) := by decide +kernel
