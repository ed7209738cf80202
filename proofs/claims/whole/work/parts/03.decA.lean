theorem dX3_init_0 : decode cX3_init 0 = .ok (.aload_n 0, 1) := by decide +kernel
theorem dX3_init_1 : decode cX3_init 1 = .ok (.invokespecial 1, 3) := by decide +kernel
theorem dX3_init_4 : decode cX3_init 4 = .ok (.aload_n 0, 1) := by decide +kernel
theorem dX3_init_5 : decode cX3_init 5 = .ok (.iconst 0, 1) := by decide +kernel
theorem dX3_init_6 : decode cX3_init 6 = .ok (.putfield 7, 3) := by decide +kernel
theorem dX3_init_9 : decode cX3_init 9 = .ok (.aload_n 0, 1) := by decide +kernel
theorem dX3_init_10 : decode cX3_init 10 = .ok (.iconst 0, 1) := by decide +kernel
theorem dX3_init_11 : decode cX3_init 11 = .ok (.iload_n 1, 1) := by decide +kernel
theorem dX3_init_12 : decode cX3_init 12 = .ok (.invokestatic 13, 3) := by decide +kernel
theorem dX3_init_15 : decode cX3_init 15 = .ok (.newarray .int, 2) := by decide +kernel
theorem dX3_init_17 : decode cX3_init 17 = .ok (.putfield 19, 3) := by decide +kernel
theorem dX3_init_20 : decode cX3_init 20 = .ok (.return_, 1) := by decide +kernel
theorem dX3_get_0 : decode cX3_get 0 = .ok (.iload_n 1, 1) := by decide +kernel
theorem dX3_get_1 : decode cX3_get 1 = .ok (.ifCond .lt 21, 3) := by decide +kernel
theorem dX3_get_4 : decode cX3_get 4 = .ok (.iload_n 1, 1) := by decide +kernel
theorem dX3_get_5 : decode cX3_get 5 = .ok (.aload_n 0, 1) := by decide +kernel
theorem dX3_get_6 : decode cX3_get 6 = .ok (.getfield 19, 3) := by decide +kernel
theorem dX3_get_9 : decode cX3_get 9 = .ok (.arraylength, 1) := by decide +kernel
theorem dX3_get_10 : decode cX3_get 10 = .ok (.if_icmp .ge 12, 3) := by decide +kernel
theorem dX3_get_13 : decode cX3_get 13 = .ok (.aload_n 0, 1) := by decide +kernel
theorem dX3_get_14 : decode cX3_get 14 = .ok (.getfield 19, 3) := by decide +kernel
theorem dX3_get_17 : decode cX3_get 17 = .ok (.iload_n 1, 1) := by decide +kernel
theorem dX3_get_18 : decode cX3_get 18 = .ok (.iaload, 1) := by decide +kernel
theorem dX3_get_19 : decode cX3_get 19 = .ok (.goto 4, 3) := by decide +kernel
theorem dX3_get_22 : decode cX3_get 22 = .ok (.iconst 0, 1) := by decide +kernel
theorem dX3_get_23 : decode cX3_get 23 = .ok (.ireturn, 1) := by decide +kernel
theorem dX3_set_0 : decode cX3_set 0 = .ok (.iload_n 1, 1) := by decide +kernel
theorem dX3_set_1 : decode cX3_set 1 = .ok (.ifCond .lt 19, 3) := by decide +kernel
theorem dX3_set_4 : decode cX3_set 4 = .ok (.iload_n 1, 1) := by decide +kernel
theorem dX3_set_5 : decode cX3_set 5 = .ok (.aload_n 0, 1) := by decide +kernel
theorem dX3_set_6 : decode cX3_set 6 = .ok (.getfield 19, 3) := by decide +kernel
theorem dX3_set_9 : decode cX3_set 9 = .ok (.arraylength, 1) := by decide +kernel
theorem dX3_set_10 : decode cX3_set 10 = .ok (.if_icmp .ge 10, 3) := by decide +kernel
theorem dX3_set_13 : decode cX3_set 13 = .ok (.aload_n 0, 1) := by decide +kernel
theorem dX3_set_14 : decode cX3_set 14 = .ok (.getfield 19, 3) := by decide +kernel
theorem dX3_set_17 : decode cX3_set 17 = .ok (.iload_n 1, 1) := by decide +kernel
theorem dX3_set_18 : decode cX3_set 18 = .ok (.iload_n 2, 1) := by decide +kernel
theorem dX3_set_19 : decode cX3_set 19 = .ok (.iastore, 1) := by decide +kernel
theorem dX3_set_20 : decode cX3_set 20 = .ok (.return_, 1) := by decide +kernel
theorem dX3_push_0 : decode cX3_push 0 = .ok (.aload_n 0, 1) := by decide +kernel
theorem dX3_push_1 : decode cX3_push 1 = .ok (.getfield 7, 3) := by decide +kernel
theorem dX3_push_4 : decode cX3_push 4 = .ok (.aload_n 0, 1) := by decide +kernel
theorem dX3_push_5 : decode cX3_push 5 = .ok (.getfield 19, 3) := by decide +kernel
theorem dX3_push_8 : decode cX3_push 8 = .ok (.arraylength, 1) := by decide +kernel
theorem dX3_push_9 : decode cX3_push 9 = .ok (.if_icmp .ge 22, 3) := by decide +kernel
theorem dX3_push_12 : decode cX3_push 12 = .ok (.aload_n 0, 1) := by decide +kernel
theorem dX3_push_13 : decode cX3_push 13 = .ok (.aload_n 0, 1) := by decide +kernel
theorem dX3_push_14 : decode cX3_push 14 = .ok (.getfield 7, 3) := by decide +kernel
theorem dX3_push_17 : decode cX3_push 17 = .ok (.iload_n 1, 1) := by decide +kernel
theorem dX3_push_18 : decode cX3_push 18 = .ok (.invokevirtual 23, 3) := by decide +kernel
theorem dX3_push_21 : decode cX3_push 21 = .ok (.aload_n 0, 1) := by decide +kernel
theorem dX3_push_22 : decode cX3_push 22 = .ok (.dup, 1) := by decide +kernel
theorem dX3_push_23 : decode cX3_push 23 = .ok (.getfield 7, 3) := by decide +kernel
theorem dX3_push_26 : decode cX3_push 26 = .ok (.iconst 1, 1) := by decide +kernel
theorem dX3_push_27 : decode cX3_push 27 = .ok (.iadd, 1) := by decide +kernel
theorem dX3_push_28 : decode cX3_push 28 = .ok (.putfield 7, 3) := by decide +kernel
theorem dX3_push_31 : decode cX3_push 31 = .ok (.return_, 1) := by decide +kernel
theorem dX3_makeEmpty_0 : decode cX3_makeEmpty 0 = .ok (.aload_n 0, 1) := by decide +kernel
theorem dX3_makeEmpty_1 : decode cX3_makeEmpty 1 = .ok (.iconst 0, 1) := by decide +kernel
theorem dX3_makeEmpty_2 : decode cX3_makeEmpty 2 = .ok (.putfield 7, 3) := by decide +kernel
theorem dX3_makeEmpty_5 : decode cX3_makeEmpty 5 = .ok (.return_, 1) := by decide +kernel
theorem dX3_sumOf_0 : decode cX3_sumOf 0 = .ok (.iconst 0, 1) := by decide +kernel
theorem dX3_sumOf_1 : decode cX3_sumOf 1 = .ok (.istore_n 2, 1) := by decide +kernel
theorem dX3_sumOf_2 : decode cX3_sumOf 2 = .ok (.iconst 0, 1) := by decide +kernel
theorem dX3_sumOf_3 : decode cX3_sumOf 3 = .ok (.istore_n 3, 1) := by decide +kernel
theorem dX3_sumOf_4 : decode cX3_sumOf 4 = .ok (.iload_n 3, 1) := by decide +kernel
theorem dX3_sumOf_5 : decode cX3_sumOf 5 = .ok (.iload_n 1, 1) := by decide +kernel
theorem dX3_sumOf_6 : decode cX3_sumOf 6 = .ok (.if_icmp .ge 27, 3) := by decide +kernel
theorem dX3_sumOf_9 : decode cX3_sumOf 9 = .ok (.iload_n 3, 1) := by decide +kernel
theorem dX3_sumOf_10 : decode cX3_sumOf 10 = .ok (.aload_n 0, 1) := by decide +kernel
theorem dX3_sumOf_11 : decode cX3_sumOf 11 = .ok (.getfield 19, 3) := by decide +kernel
theorem dX3_sumOf_14 : decode cX3_sumOf 14 = .ok (.arraylength, 1) := by decide +kernel
theorem dX3_sumOf_15 : decode cX3_sumOf 15 = .ok (.if_icmp .ge 18, 3) := by decide +kernel
theorem dX3_sumOf_18 : decode cX3_sumOf 18 = .ok (.iload_n 2, 1) := by decide +kernel
theorem dX3_sumOf_19 : decode cX3_sumOf 19 = .ok (.aload_n 0, 1) := by decide +kernel
theorem dX3_sumOf_20 : decode cX3_sumOf 20 = .ok (.getfield 19, 3) := by decide +kernel
theorem dX3_sumOf_23 : decode cX3_sumOf 23 = .ok (.iload_n 3, 1) := by decide +kernel
theorem dX3_sumOf_24 : decode cX3_sumOf 24 = .ok (.iaload, 1) := by decide +kernel
theorem dX3_sumOf_25 : decode cX3_sumOf 25 = .ok (.iadd, 1) := by decide +kernel
theorem dX3_sumOf_26 : decode cX3_sumOf 26 = .ok (.istore_n 2, 1) := by decide +kernel
theorem dX3_sumOf_27 : decode cX3_sumOf 27 = .ok (.iinc 3 1, 3) := by decide +kernel
theorem dX3_sumOf_30 : decode cX3_sumOf 30 = .ok (.goto (-26), 3) := by decide +kernel
theorem dX3_sumOf_33 : decode cX3_sumOf 33 = .ok (.iload_n 2, 1) := by decide +kernel
theorem dX3_sumOf_34 : decode cX3_sumOf 34 = .ok (.ireturn, 1) := by decide +kernel
theorem dX3_take_0 : decode cX3_take 0 = .ok (.iconst 0, 1) := by decide +kernel
theorem dX3_take_1 : decode cX3_take 1 = .ok (.istore_n 2, 1) := by decide +kernel
theorem dX3_take_2 : decode cX3_take 2 = .ok (.iload_n 2, 1) := by decide +kernel
theorem dX3_take_3 : decode cX3_take 3 = .ok (.aload_n 0, 1) := by decide +kernel
theorem dX3_take_4 : decode cX3_take 4 = .ok (.getfield 19, 3) := by decide +kernel
theorem dX3_take_7 : decode cX3_take 7 = .ok (.arraylength, 1) := by decide +kernel
theorem dX3_take_8 : decode cX3_take 8 = .ok (.if_icmp .ge 30, 3) := by decide +kernel
theorem dX3_take_11 : decode cX3_take 11 = .ok (.iload_n 2, 1) := by decide +kernel
theorem dX3_take_12 : decode cX3_take 12 = .ok (.aload_n 1, 1) := by decide +kernel
theorem dX3_take_13 : decode cX3_take 13 = .ok (.getfield 19, 3) := by decide +kernel
theorem dX3_take_16 : decode cX3_take 16 = .ok (.arraylength, 1) := by decide +kernel
theorem dX3_take_17 : decode cX3_take 17 = .ok (.if_icmp .ge 21, 3) := by decide +kernel
theorem dX3_take_20 : decode cX3_take 20 = .ok (.aload_n 0, 1) := by decide +kernel
theorem dX3_take_21 : decode cX3_take 21 = .ok (.getfield 19, 3) := by decide +kernel
theorem dX3_take_24 : decode cX3_take 24 = .ok (.iload_n 2, 1) := by decide +kernel
theorem dX3_take_25 : decode cX3_take 25 = .ok (.aload_n 1, 1) := by decide +kernel
theorem dX3_take_26 : decode cX3_take 26 = .ok (.getfield 19, 3) := by decide +kernel
theorem dX3_take_29 : decode cX3_take 29 = .ok (.iload_n 2, 1) := by decide +kernel
theorem dX3_take_30 : decode cX3_take 30 = .ok (.iaload, 1) := by decide +kernel
theorem dX3_take_31 : decode cX3_take 31 = .ok (.iastore, 1) := by decide +kernel
theorem dX3_take_32 : decode cX3_take 32 = .ok (.iinc 2 1, 3) := by decide +kernel
theorem dX3_take_35 : decode cX3_take 35 = .ok (.goto (-33), 3) := by decide +kernel
theorem dX3_take_38 : decode cX3_take 38 = .ok (.aload_n 0, 1) := by decide +kernel
theorem dX3_take_39 : decode cX3_take 39 = .ok (.aload_n 1, 1) := by decide +kernel
theorem dX3_take_40 : decode cX3_take 40 = .ok (.getfield 7, 3) := by decide +kernel
theorem dX3_take_43 : decode cX3_take 43 = .ok (.putfield 7, 3) := by decide +kernel
theorem dX3_take_46 : decode cX3_take 46 = .ok (.return_, 1) := by decide +kernel
theorem dX0_init_0 : decode cX0_init 0 = .ok (.aload_n 0, 1) := by decide +kernel
theorem dX0_init_1 : decode cX0_init 1 = .ok (.invokespecial 3, 3) := by decide +kernel
theorem dX0_init_4 : decode cX0_init 4 = .ok (.aload_n 0, 1) := by decide +kernel
theorem dX0_init_5 : decode cX0_init 5 = .ok (.new 9, 3) := by decide +kernel
theorem dX0_init_8 : decode cX0_init 8 = .ok (.dup, 1) := by decide +kernel
theorem dX0_init_9 : decode cX0_init 9 = .ok (.bipush 7, 2) := by decide +kernel
theorem dX0_init_11 : decode cX0_init 11 = .ok (.invokespecial 11, 3) := by decide +kernel
theorem dX0_init_14 : decode cX0_init 14 = .ok (.putfield 14, 3) := by decide +kernel
theorem dX0_init_17 : decode cX0_init 17 = .ok (.aload_n 0, 1) := by decide +kernel
theorem dX0_init_18 : decode cX0_init 18 = .ok (.new 9, 3) := by decide +kernel
theorem dX0_init_21 : decode cX0_init 21 = .ok (.dup, 1) := by decide +kernel
theorem dX0_init_22 : decode cX0_init 22 = .ok (.bipush 7, 2) := by decide +kernel
theorem dX0_init_24 : decode cX0_init 24 = .ok (.invokespecial 11, 3) := by decide +kernel
theorem dX0_init_27 : decode cX0_init 27 = .ok (.putfield 20, 3) := by decide +kernel
theorem dX0_init_30 : decode cX0_init 30 = .ok (.aload_n 0, 1) := by decide +kernel
theorem dX0_init_31 : decode cX0_init 31 = .ok (.new 9, 3) := by decide +kernel
theorem dX0_init_34 : decode cX0_init 34 = .ok (.dup, 1) := by decide +kernel
theorem dX0_init_35 : decode cX0_init 35 = .ok (.bipush 7, 2) := by decide +kernel
theorem dX0_init_37 : decode cX0_init 37 = .ok (.invokespecial 11, 3) := by decide +kernel
theorem dX0_init_40 : decode cX0_init 40 = .ok (.putfield 23, 3) := by decide +kernel
theorem dX0_init_43 : decode cX0_init 43 = .ok (.aload_n 0, 1) := by decide +kernel
theorem dX0_init_44 : decode cX0_init 44 = .ok (.new 9, 3) := by decide +kernel
theorem dX0_init_47 : decode cX0_init 47 = .ok (.dup, 1) := by decide +kernel
theorem dX0_init_48 : decode cX0_init 48 = .ok (.bipush 7, 2) := by decide +kernel
theorem dX0_init_50 : decode cX0_init 50 = .ok (.invokespecial 11, 3) := by decide +kernel
theorem dX0_init_53 : decode cX0_init 53 = .ok (.putfield 26, 3) := by decide +kernel
theorem dX0_init_56 : decode cX0_init 56 = .ok (.aload_n 0, 1) := by decide +kernel
theorem dX0_init_57 : decode cX0_init 57 = .ok (.new 9, 3) := by decide +kernel
theorem dX0_init_60 : decode cX0_init 60 = .ok (.dup, 1) := by decide +kernel
theorem dX0_init_61 : decode cX0_init 61 = .ok (.bipush 7, 2) := by decide +kernel
theorem dX0_init_63 : decode cX0_init 63 = .ok (.invokespecial 11, 3) := by decide +kernel
theorem dX0_init_66 : decode cX0_init 66 = .ok (.putfield 29, 3) := by decide +kernel
theorem dX0_init_69 : decode cX0_init 69 = .ok (.aload_n 0, 1) := by decide +kernel
theorem dX0_init_70 : decode cX0_init 70 = .ok (.new 9, 3) := by decide +kernel
theorem dX0_init_73 : decode cX0_init 73 = .ok (.dup, 1) := by decide +kernel
theorem dX0_init_74 : decode cX0_init 74 = .ok (.bipush 7, 2) := by decide +kernel
theorem dX0_init_76 : decode cX0_init 76 = .ok (.invokespecial 11, 3) := by decide +kernel
theorem dX0_init_79 : decode cX0_init 79 = .ok (.putfield 32, 3) := by decide +kernel
theorem dX0_init_82 : decode cX0_init 82 = .ok (.aload_n 0, 1) := by decide +kernel
theorem dX0_init_83 : decode cX0_init 83 = .ok (.new 9, 3) := by decide +kernel
theorem dX0_init_86 : decode cX0_init 86 = .ok (.dup, 1) := by decide +kernel
theorem dX0_init_87 : decode cX0_init 87 = .ok (.bipush 7, 2) := by decide +kernel
theorem dX0_init_89 : decode cX0_init 89 = .ok (.invokespecial 11, 3) := by decide +kernel
theorem dX0_init_92 : decode cX0_init 92 = .ok (.putfield 35, 3) := by decide +kernel
theorem dX0_init_95 : decode cX0_init 95 = .ok (.aload_n 0, 1) := by decide +kernel
theorem dX0_init_96 : decode cX0_init 96 = .ok (.iconst 0, 1) := by decide +kernel
theorem dX0_init_97 : decode cX0_init 97 = .ok (.putfield 38, 3) := by decide +kernel
theorem dX0_init_100 : decode cX0_init 100 = .ok (.aload_n 0, 1) := by decide +kernel
theorem dX0_init_101 : decode cX0_init 101 = .ok (.iconst 0, 1) := by decide +kernel
theorem dX0_init_102 : decode cX0_init 102 = .ok (.putfield 42, 3) := by decide +kernel
theorem dX0_init_105 : decode cX0_init 105 = .ok (.return_, 1) := by decide +kernel
theorem dX0_take_0 : decode cX0_take 0 = .ok (.aload_n 0, 1) := by decide +kernel
theorem dX0_take_1 : decode cX0_take 1 = .ok (.getfield 14, 3) := by decide +kernel
theorem dX0_take_4 : decode cX0_take 4 = .ok (.aload_n 1, 1) := by decide +kernel
theorem dX0_take_5 : decode cX0_take 5 = .ok (.getfield 14, 3) := by decide +kernel
theorem dX0_take_8 : decode cX0_take 8 = .ok (.invokevirtual 45, 3) := by decide +kernel
theorem dX0_take_11 : decode cX0_take 11 = .ok (.aload_n 0, 1) := by decide +kernel
theorem dX0_take_12 : decode cX0_take 12 = .ok (.getfield 20, 3) := by decide +kernel
theorem dX0_take_15 : decode cX0_take 15 = .ok (.aload_n 1, 1) := by decide +kernel
theorem dX0_take_16 : decode cX0_take 16 = .ok (.getfield 20, 3) := by decide +kernel
theorem dX0_take_19 : decode cX0_take 19 = .ok (.invokevirtual 45, 3) := by decide +kernel
theorem dX0_take_22 : decode cX0_take 22 = .ok (.aload_n 0, 1) := by decide +kernel
theorem dX0_take_23 : decode cX0_take 23 = .ok (.getfield 23, 3) := by decide +kernel
theorem dX0_take_26 : decode cX0_take 26 = .ok (.aload_n 1, 1) := by decide +kernel
theorem dX0_take_27 : decode cX0_take 27 = .ok (.getfield 23, 3) := by decide +kernel
theorem dX0_take_30 : decode cX0_take 30 = .ok (.invokevirtual 45, 3) := by decide +kernel
theorem dX0_take_33 : decode cX0_take 33 = .ok (.aload_n 0, 1) := by decide +kernel
theorem dX0_take_34 : decode cX0_take 34 = .ok (.getfield 26, 3) := by decide +kernel
theorem dX0_take_37 : decode cX0_take 37 = .ok (.aload_n 1, 1) := by decide +kernel
theorem dX0_take_38 : decode cX0_take 38 = .ok (.getfield 26, 3) := by decide +kernel
theorem dX0_take_41 : decode cX0_take 41 = .ok (.invokevirtual 45, 3) := by decide +kernel
theorem dX0_take_44 : decode cX0_take 44 = .ok (.aload_n 0, 1) := by decide +kernel
theorem dX0_take_45 : decode cX0_take 45 = .ok (.getfield 29, 3) := by decide +kernel
theorem dX0_take_48 : decode cX0_take 48 = .ok (.aload_n 1, 1) := by decide +kernel
theorem dX0_take_49 : decode cX0_take 49 = .ok (.getfield 29, 3) := by decide +kernel
theorem dX0_take_52 : decode cX0_take 52 = .ok (.invokevirtual 45, 3) := by decide +kernel
theorem dX0_take_55 : decode cX0_take 55 = .ok (.aload_n 0, 1) := by decide +kernel
theorem dX0_take_56 : decode cX0_take 56 = .ok (.getfield 32, 3) := by decide +kernel
theorem dX0_take_59 : decode cX0_take 59 = .ok (.aload_n 1, 1) := by decide +kernel
theorem dX0_take_60 : decode cX0_take 60 = .ok (.getfield 32, 3) := by decide +kernel
theorem dX0_take_63 : decode cX0_take 63 = .ok (.invokevirtual 45, 3) := by decide +kernel
theorem dX0_take_66 : decode cX0_take 66 = .ok (.aload_n 0, 1) := by decide +kernel
theorem dX0_take_67 : decode cX0_take 67 = .ok (.getfield 35, 3) := by decide +kernel
theorem dX0_take_70 : decode cX0_take 70 = .ok (.aload_n 1, 1) := by decide +kernel
theorem dX0_take_71 : decode cX0_take 71 = .ok (.getfield 35, 3) := by decide +kernel
theorem dX0_take_74 : decode cX0_take 74 = .ok (.invokevirtual 45, 3) := by decide +kernel
theorem dX0_take_77 : decode cX0_take 77 = .ok (.aload_n 0, 1) := by decide +kernel
theorem dX0_take_78 : decode cX0_take 78 = .ok (.aload_n 1, 1) := by decide +kernel
theorem dX0_take_79 : decode cX0_take 79 = .ok (.getfield 38, 3) := by decide +kernel
theorem dX0_take_82 : decode cX0_take 82 = .ok (.putfield 38, 3) := by decide +kernel
theorem dX0_take_85 : decode cX0_take 85 = .ok (.aload_n 0, 1) := by decide +kernel
theorem dX0_take_86 : decode cX0_take 86 = .ok (.aload_n 1, 1) := by decide +kernel
theorem dX0_take_87 : decode cX0_take 87 = .ok (.getfield 42, 3) := by decide +kernel
theorem dX0_take_90 : decode cX0_take 90 = .ok (.putfield 42, 3) := by decide +kernel
theorem dX0_take_93 : decode cX0_take 93 = .ok (.return_, 1) := by decide +kernel
theorem dX0_addWriter_0 : decode cX0_addWriter 0 = .ok (.aload_n 0, 1) := by decide +kernel
theorem dX0_addWriter_1 : decode cX0_addWriter 1 = .ok (.getfield 38, 3) := by decide +kernel
theorem dX0_addWriter_4 : decode cX0_addWriter 4 = .ok (.bipush 7, 2) := by decide +kernel
theorem dX0_addWriter_6 : decode cX0_addWriter 6 = .ok (.if_icmp .lt 4, 3) := by decide +kernel
theorem dX0_addWriter_9 : decode cX0_addWriter 9 = .ok (.return_, 1) := by decide +kernel
theorem dX0_addWriter_10 : decode cX0_addWriter 10 = .ok (.aload_n 0, 1) := by decide +kernel
theorem dX0_addWriter_11 : decode cX0_addWriter 11 = .ok (.getfield 14, 3) := by decide +kernel
theorem dX0_addWriter_14 : decode cX0_addWriter 14 = .ok (.aload_n 0, 1) := by decide +kernel
theorem dX0_addWriter_15 : decode cX0_addWriter 15 = .ok (.getfield 38, 3) := by decide +kernel
theorem dX0_addWriter_18 : decode cX0_addWriter 18 = .ok (.iload_n 1, 1) := by decide +kernel
theorem dX0_addWriter_19 : decode cX0_addWriter 19 = .ok (.invokevirtual 49, 3) := by decide +kernel
theorem dX0_addWriter_22 : decode cX0_addWriter 22 = .ok (.aload_n 0, 1) := by decide +kernel
theorem dX0_addWriter_23 : decode cX0_addWriter 23 = .ok (.getfield 20, 3) := by decide +kernel
theorem dX0_addWriter_26 : decode cX0_addWriter 26 = .ok (.aload_n 0, 1) := by decide +kernel
theorem dX0_addWriter_27 : decode cX0_addWriter 27 = .ok (.getfield 38, 3) := by decide +kernel
theorem dX0_addWriter_30 : decode cX0_addWriter 30 = .ok (.iload_n 2, 1) := by decide +kernel
theorem dX0_addWriter_31 : decode cX0_addWriter 31 = .ok (.invokevirtual 49, 3) := by decide +kernel
theorem dX0_addWriter_34 : decode cX0_addWriter 34 = .ok (.aload_n 0, 1) := by decide +kernel
theorem dX0_addWriter_35 : decode cX0_addWriter 35 = .ok (.getfield 23, 3) := by decide +kernel
theorem dX0_addWriter_38 : decode cX0_addWriter 38 = .ok (.aload_n 0, 1) := by decide +kernel
theorem dX0_addWriter_39 : decode cX0_addWriter 39 = .ok (.getfield 38, 3) := by decide +kernel
theorem dX0_addWriter_42 : decode cX0_addWriter 42 = .ok (.iload_n 3, 1) := by decide +kernel
theorem dX0_addWriter_43 : decode cX0_addWriter 43 = .ok (.invokevirtual 49, 3) := by decide +kernel
theorem dX0_addWriter_46 : decode cX0_addWriter 46 = .ok (.aload_n 0, 1) := by decide +kernel
theorem dX0_addWriter_47 : decode cX0_addWriter 47 = .ok (.getfield 26, 3) := by decide +kernel
theorem dX0_addWriter_50 : decode cX0_addWriter 50 = .ok (.aload_n 0, 1) := by decide +kernel
theorem dX0_addWriter_51 : decode cX0_addWriter 51 = .ok (.getfield 38, 3) := by decide +kernel
theorem dX0_addWriter_54 : decode cX0_addWriter 54 = .ok (.bipush 50, 2) := by decide +kernel
theorem dX0_addWriter_56 : decode cX0_addWriter 56 = .ok (.invokevirtual 49, 3) := by decide +kernel
theorem dX0_addWriter_59 : decode cX0_addWriter 59 = .ok (.aload_n 0, 1) := by decide +kernel
theorem dX0_addWriter_60 : decode cX0_addWriter 60 = .ok (.getfield 29, 3) := by decide +kernel
theorem dX0_addWriter_63 : decode cX0_addWriter 63 = .ok (.aload_n 0, 1) := by decide +kernel
theorem dX0_addWriter_64 : decode cX0_addWriter 64 = .ok (.getfield 38, 3) := by decide +kernel
theorem dX0_addWriter_67 : decode cX0_addWriter 67 = .ok (.iconst 1, 1) := by decide +kernel
theorem dX0_addWriter_68 : decode cX0_addWriter 68 = .ok (.invokevirtual 49, 3) := by decide +kernel
theorem dX0_addWriter_71 : decode cX0_addWriter 71 = .ok (.aload_n 0, 1) := by decide +kernel
theorem dX0_addWriter_72 : decode cX0_addWriter 72 = .ok (.getfield 32, 3) := by decide +kernel
theorem dX0_addWriter_75 : decode cX0_addWriter 75 = .ok (.aload_n 0, 1) := by decide +kernel
theorem dX0_addWriter_76 : decode cX0_addWriter 76 = .ok (.getfield 38, 3) := by decide +kernel
theorem dX0_addWriter_79 : decode cX0_addWriter 79 = .ok (.aload_n 0, 1) := by decide +kernel
theorem dX0_addWriter_80 : decode cX0_addWriter 80 = .ok (.getfield 38, 3) := by decide +kernel
theorem dX0_addWriter_83 : decode cX0_addWriter 83 = .ok (.invokevirtual 49, 3) := by decide +kernel
theorem dX0_addWriter_86 : decode cX0_addWriter 86 = .ok (.aload_n 0, 1) := by decide +kernel
theorem dX0_addWriter_87 : decode cX0_addWriter 87 = .ok (.dup, 1) := by decide +kernel
theorem dX0_addWriter_88 : decode cX0_addWriter 88 = .ok (.getfield 38, 3) := by decide +kernel
theorem dX0_addWriter_91 : decode cX0_addWriter 91 = .ok (.iconst 1, 1) := by decide +kernel
theorem dX0_addWriter_92 : decode cX0_addWriter 92 = .ok (.iadd, 1) := by decide +kernel
theorem dX0_addWriter_93 : decode cX0_addWriter 93 = .ok (.putfield 38, 3) := by decide +kernel
theorem dX0_addWriter_96 : decode cX0_addWriter 96 = .ok (.aload_n 0, 1) := by decide +kernel
theorem dX0_addWriter_97 : decode cX0_addWriter 97 = .ok (.invokevirtual 53, 3) := by decide +kernel
theorem dX0_addWriter_100 : decode cX0_addWriter 100 = .ok (.return_, 1) := by decide +kernel
theorem dX0_has_0 : decode cX0_has 0 = .ok (.iload_n 1, 1) := by decide +kernel
theorem dX0_has_1 : decode cX0_has 1 = .ok (.ifCond .lt 15, 3) := by decide +kernel
theorem dX0_has_4 : decode cX0_has 4 = .ok (.iload_n 1, 1) := by decide +kernel
theorem dX0_has_5 : decode cX0_has 5 = .ok (.aload_n 0, 1) := by decide +kernel
theorem dX0_has_6 : decode cX0_has 6 = .ok (.getfield 38, 3) := by decide +kernel
theorem dX0_has_9 : decode cX0_has 9 = .ok (.if_icmp .ge 7, 3) := by decide +kernel
theorem dX0_has_12 : decode cX0_has 12 = .ok (.iconst 1, 1) := by decide +kernel
theorem dX0_has_13 : decode cX0_has 13 = .ok (.goto 4, 3) := by decide +kernel
theorem dX0_has_16 : decode cX0_has 16 = .ok (.iconst 0, 1) := by decide +kernel
theorem dX0_has_17 : decode cX0_has 17 = .ok (.ireturn, 1) := by decide +kernel
theorem dX0_hasTwo_0 : decode cX0_hasTwo 0 = .ok (.aload_n 0, 1) := by decide +kernel
theorem dX0_hasTwo_1 : decode cX0_hasTwo 1 = .ok (.iload_n 1, 1) := by decide +kernel
theorem dX0_hasTwo_2 : decode cX0_hasTwo 2 = .ok (.invokevirtual 56, 3) := by decide +kernel
theorem dX0_hasTwo_5 : decode cX0_hasTwo 5 = .ok (.ifCond .eq 20, 3) := by decide +kernel
theorem dX0_hasTwo_8 : decode cX0_hasTwo 8 = .ok (.aload_n 0, 1) := by decide +kernel
theorem dX0_hasTwo_9 : decode cX0_hasTwo 9 = .ok (.iload_n 2, 1) := by decide +kernel
theorem dX0_hasTwo_10 : decode cX0_hasTwo 10 = .ok (.invokevirtual 56, 3) := by decide +kernel
theorem dX0_hasTwo_13 : decode cX0_hasTwo 13 = .ok (.ifCond .eq 12, 3) := by decide +kernel
theorem dX0_hasTwo_16 : decode cX0_hasTwo 16 = .ok (.iload_n 1, 1) := by decide +kernel
theorem dX0_hasTwo_17 : decode cX0_hasTwo 17 = .ok (.iload_n 2, 1) := by decide +kernel
theorem dX0_hasTwo_18 : decode cX0_hasTwo 18 = .ok (.if_icmp .eq 7, 3) := by decide +kernel
theorem dX0_hasTwo_21 : decode cX0_hasTwo 21 = .ok (.iconst 1, 1) := by decide +kernel
theorem dX0_hasTwo_22 : decode cX0_hasTwo 22 = .ok (.goto 4, 3) := by decide +kernel
theorem dX0_hasTwo_25 : decode cX0_hasTwo 25 = .ok (.iconst 0, 1) := by decide +kernel
theorem dX0_hasTwo_26 : decode cX0_hasTwo 26 = .ok (.ireturn, 1) := by decide +kernel
theorem dX0_isWriting_0 : decode cX0_isWriting 0 = .ok (.aload_n 0, 1) := by decide +kernel
theorem dX0_isWriting_1 : decode cX0_isWriting 1 = .ok (.getfield 29, 3) := by decide +kernel
theorem dX0_isWriting_4 : decode cX0_isWriting 4 = .ok (.iload_n 1, 1) := by decide +kernel
theorem dX0_isWriting_5 : decode cX0_isWriting 5 = .ok (.invokevirtual 60, 3) := by decide +kernel
theorem dX0_isWriting_8 : decode cX0_isWriting 8 = .ok (.iconst 1, 1) := by decide +kernel
theorem dX0_isWriting_9 : decode cX0_isWriting 9 = .ok (.if_icmp .ne 7, 3) := by decide +kernel
theorem dX0_isWriting_12 : decode cX0_isWriting 12 = .ok (.iconst 1, 1) := by decide +kernel
theorem dX0_isWriting_13 : decode cX0_isWriting 13 = .ok (.goto 4, 3) := by decide +kernel
theorem dX0_isWriting_16 : decode cX0_isWriting 16 = .ok (.iconst 0, 1) := by decide +kernel
theorem dX0_isWriting_17 : decode cX0_isWriting 17 = .ok (.ireturn, 1) := by decide +kernel
theorem dX0_writingBits_0 : decode cX0_writingBits 0 = .ok (.iconst 0, 1) := by decide +kernel
theorem dX0_writingBits_1 : decode cX0_writingBits 1 = .ok (.istore_n 1, 1) := by decide +kernel
theorem dX0_writingBits_2 : decode cX0_writingBits 2 = .ok (.iconst 0, 1) := by decide +kernel
theorem dX0_writingBits_3 : decode cX0_writingBits 3 = .ok (.istore_n 2, 1) := by decide +kernel
theorem dX0_writingBits_4 : decode cX0_writingBits 4 = .ok (.iload_n 2, 1) := by decide +kernel
theorem dX0_writingBits_5 : decode cX0_writingBits 5 = .ok (.aload_n 0, 1) := by decide +kernel
theorem dX0_writingBits_6 : decode cX0_writingBits 6 = .ok (.getfield 38, 3) := by decide +kernel
theorem dX0_writingBits_9 : decode cX0_writingBits 9 = .ok (.if_icmp .ge 22, 3) := by decide +kernel
theorem dX0_writingBits_12 : decode cX0_writingBits 12 = .ok (.iload_n 1, 1) := by decide +kernel
theorem dX0_writingBits_13 : decode cX0_writingBits 13 = .ok (.aload_n 0, 1) := by decide +kernel
theorem dX0_writingBits_14 : decode cX0_writingBits 14 = .ok (.getfield 29, 3) := by decide +kernel
theorem dX0_writingBits_17 : decode cX0_writingBits 17 = .ok (.iload_n 2, 1) := by decide +kernel
theorem dX0_writingBits_18 : decode cX0_writingBits 18 = .ok (.invokevirtual 60, 3) := by decide +kernel
theorem dX0_writingBits_21 : decode cX0_writingBits 21 = .ok (.iload_n 2, 1) := by decide +kernel
theorem dX0_writingBits_22 : decode cX0_writingBits 22 = .ok (.ishl, 1) := by decide +kernel
theorem dX0_writingBits_23 : decode cX0_writingBits 23 = .ok (.ior, 1) := by decide +kernel
theorem dX0_writingBits_24 : decode cX0_writingBits 24 = .ok (.istore_n 1, 1) := by decide +kernel
theorem dX0_writingBits_25 : decode cX0_writingBits 25 = .ok (.iinc 2 1, 3) := by decide +kernel
theorem dX0_writingBits_28 : decode cX0_writingBits 28 = .ok (.goto (-24), 3) := by decide +kernel
theorem dX0_writingBits_31 : decode cX0_writingBits 31 = .ok (.iload_n 1, 1) := by decide +kernel
theorem dX0_writingBits_32 : decode cX0_writingBits 32 = .ok (.ireturn, 1) := by decide +kernel
theorem dX0_placeOf_0 : decode cX0_placeOf 0 = .ok (.iconst 0, 1) := by decide +kernel
theorem dX0_placeOf_1 : decode cX0_placeOf 1 = .ok (.istore_n 2, 1) := by decide +kernel
theorem dX0_placeOf_2 : decode cX0_placeOf 2 = .ok (.iload_n 2, 1) := by decide +kernel
theorem dX0_placeOf_3 : decode cX0_placeOf 3 = .ok (.aload_n 0, 1) := by decide +kernel
theorem dX0_placeOf_4 : decode cX0_placeOf 4 = .ok (.getfield 38, 3) := by decide +kernel
theorem dX0_placeOf_7 : decode cX0_placeOf 7 = .ok (.if_icmp .ge 23, 3) := by decide +kernel
theorem dX0_placeOf_10 : decode cX0_placeOf 10 = .ok (.aload_n 0, 1) := by decide +kernel
theorem dX0_placeOf_11 : decode cX0_placeOf 11 = .ok (.getfield 32, 3) := by decide +kernel
theorem dX0_placeOf_14 : decode cX0_placeOf 14 = .ok (.iload_n 2, 1) := by decide +kernel
theorem dX0_placeOf_15 : decode cX0_placeOf 15 = .ok (.invokevirtual 60, 3) := by decide +kernel
theorem dX0_placeOf_18 : decode cX0_placeOf 18 = .ok (.iload_n 1, 1) := by decide +kernel
theorem dX0_placeOf_19 : decode cX0_placeOf 19 = .ok (.if_icmp .ne 5, 3) := by decide +kernel
theorem dX0_placeOf_22 : decode cX0_placeOf 22 = .ok (.iload_n 2, 1) := by decide +kernel
theorem dX0_placeOf_23 : decode cX0_placeOf 23 = .ok (.ireturn, 1) := by decide +kernel
theorem dX0_placeOf_24 : decode cX0_placeOf 24 = .ok (.iinc 2 1, 3) := by decide +kernel
theorem dX0_placeOf_27 : decode cX0_placeOf 27 = .ok (.goto (-25), 3) := by decide +kernel
theorem dX0_placeOf_30 : decode cX0_placeOf 30 = .ok (.bipush (-9), 2) := by decide +kernel
theorem dX0_placeOf_32 : decode cX0_placeOf 32 = .ok (.ireturn, 1) := by decide +kernel
theorem dX0_swapPlaces_0 : decode cX0_swapPlaces 0 = .ok (.aload_n 0, 1) := by decide +kernel
theorem dX0_swapPlaces_1 : decode cX0_swapPlaces 1 = .ok (.iload_n 1, 1) := by decide +kernel
theorem dX0_swapPlaces_2 : decode cX0_swapPlaces 2 = .ok (.invokevirtual 64, 3) := by decide +kernel
theorem dX0_swapPlaces_5 : decode cX0_swapPlaces 5 = .ok (.istore_n 3, 1) := by decide +kernel
theorem dX0_swapPlaces_6 : decode cX0_swapPlaces 6 = .ok (.aload_n 0, 1) := by decide +kernel
theorem dX0_swapPlaces_7 : decode cX0_swapPlaces 7 = .ok (.iload_n 2, 1) := by decide +kernel
theorem dX0_swapPlaces_8 : decode cX0_swapPlaces 8 = .ok (.invokevirtual 64, 3) := by decide +kernel
theorem dX0_swapPlaces_11 : decode cX0_swapPlaces 11 = .ok (.istore 4, 2) := by decide +kernel
theorem dX0_swapPlaces_13 : decode cX0_swapPlaces 13 = .ok (.aload_n 0, 1) := by decide +kernel
theorem dX0_swapPlaces_14 : decode cX0_swapPlaces 14 = .ok (.getfield 32, 3) := by decide +kernel
theorem dX0_swapPlaces_17 : decode cX0_swapPlaces 17 = .ok (.iload_n 3, 1) := by decide +kernel
theorem dX0_swapPlaces_18 : decode cX0_swapPlaces 18 = .ok (.iload_n 2, 1) := by decide +kernel
theorem dX0_swapPlaces_19 : decode cX0_swapPlaces 19 = .ok (.invokevirtual 49, 3) := by decide +kernel
theorem dX0_swapPlaces_22 : decode cX0_swapPlaces 22 = .ok (.aload_n 0, 1) := by decide +kernel
theorem dX0_swapPlaces_23 : decode cX0_swapPlaces 23 = .ok (.getfield 32, 3) := by decide +kernel
theorem dX0_swapPlaces_26 : decode cX0_swapPlaces 26 = .ok (.iload 4, 2) := by decide +kernel
theorem dX0_swapPlaces_28 : decode cX0_swapPlaces 28 = .ok (.iload_n 1, 1) := by decide +kernel
theorem dX0_swapPlaces_29 : decode cX0_swapPlaces 29 = .ok (.invokevirtual 49, 3) := by decide +kernel
theorem dX0_swapPlaces_32 : decode cX0_swapPlaces 32 = .ok (.aload_n 0, 1) := by decide +kernel
theorem dX0_swapPlaces_33 : decode cX0_swapPlaces 33 = .ok (.invokevirtual 53, 3) := by decide +kernel
theorem dX0_swapPlaces_36 : decode cX0_swapPlaces 36 = .ok (.return_, 1) := by decide +kernel
theorem dX0_bringBehind_0 : decode cX0_bringBehind 0 = .ok (.iconst 0, 1) := by decide +kernel
theorem dX0_bringBehind_1 : decode cX0_bringBehind 1 = .ok (.aload_n 0, 1) := by decide +kernel
theorem dX0_bringBehind_2 : decode cX0_bringBehind 2 = .ok (.iload_n 1, 1) := by decide +kernel
theorem dX0_bringBehind_3 : decode cX0_bringBehind 3 = .ok (.invokevirtual 64, 3) := by decide +kernel
theorem dX0_bringBehind_6 : decode cX0_bringBehind 6 = .ok (.invokestatic 67, 3) := by decide +kernel
theorem dX0_bringBehind_9 : decode cX0_bringBehind 9 = .ok (.istore_n 3, 1) := by decide +kernel
theorem dX0_bringBehind_10 : decode cX0_bringBehind 10 = .ok (.iload_n 3, 1) := by decide +kernel
theorem dX0_bringBehind_11 : decode cX0_bringBehind 11 = .ok (.iconst 1, 1) := by decide +kernel
theorem dX0_bringBehind_12 : decode cX0_bringBehind 12 = .ok (.iadd, 1) := by decide +kernel
theorem dX0_bringBehind_13 : decode cX0_bringBehind 13 = .ok (.aload_n 0, 1) := by decide +kernel
theorem dX0_bringBehind_14 : decode cX0_bringBehind 14 = .ok (.getfield 38, 3) := by decide +kernel
theorem dX0_bringBehind_17 : decode cX0_bringBehind 17 = .ok (.if_icmp .ge 27, 3) := by decide +kernel
theorem dX0_bringBehind_20 : decode cX0_bringBehind 20 = .ok (.aload_n 0, 1) := by decide +kernel
theorem dX0_bringBehind_21 : decode cX0_bringBehind 21 = .ok (.getfield 32, 3) := by decide +kernel
theorem dX0_bringBehind_24 : decode cX0_bringBehind 24 = .ok (.iload_n 3, 1) := by decide +kernel
theorem dX0_bringBehind_25 : decode cX0_bringBehind 25 = .ok (.aload_n 0, 1) := by decide +kernel
theorem dX0_bringBehind_26 : decode cX0_bringBehind 26 = .ok (.getfield 32, 3) := by decide +kernel
theorem dX0_bringBehind_29 : decode cX0_bringBehind 29 = .ok (.iload_n 3, 1) := by decide +kernel
theorem dX0_bringBehind_30 : decode cX0_bringBehind 30 = .ok (.iconst 1, 1) := by decide +kernel
theorem dX0_bringBehind_31 : decode cX0_bringBehind 31 = .ok (.iadd, 1) := by decide +kernel
theorem dX0_bringBehind_32 : decode cX0_bringBehind 32 = .ok (.invokevirtual 60, 3) := by decide +kernel
theorem dX0_bringBehind_35 : decode cX0_bringBehind 35 = .ok (.invokevirtual 49, 3) := by decide +kernel
theorem dX0_bringBehind_38 : decode cX0_bringBehind 38 = .ok (.iinc 3 1, 3) := by decide +kernel
theorem dX0_bringBehind_41 : decode cX0_bringBehind 41 = .ok (.goto (-31), 3) := by decide +kernel
theorem dX0_bringBehind_44 : decode cX0_bringBehind 44 = .ok (.aload_n 0, 1) := by decide +kernel
theorem dX0_bringBehind_45 : decode cX0_bringBehind 45 = .ok (.iload_n 2, 1) := by decide +kernel
theorem dX0_bringBehind_46 : decode cX0_bringBehind 46 = .ok (.invokevirtual 64, 3) := by decide +kernel
theorem dX0_bringBehind_49 : decode cX0_bringBehind 49 = .ok (.iconst 1, 1) := by decide +kernel
theorem dX0_bringBehind_50 : decode cX0_bringBehind 50 = .ok (.iadd, 1) := by decide +kernel
theorem dX0_bringBehind_51 : decode cX0_bringBehind 51 = .ok (.istore_n 3, 1) := by decide +kernel
theorem dX0_bringBehind_52 : decode cX0_bringBehind 52 = .ok (.aload_n 0, 1) := by decide +kernel
theorem dX0_bringBehind_53 : decode cX0_bringBehind 53 = .ok (.getfield 38, 3) := by decide +kernel
theorem dX0_bringBehind_56 : decode cX0_bringBehind 56 = .ok (.iconst 1, 1) := by decide +kernel
theorem dX0_bringBehind_57 : decode cX0_bringBehind 57 = .ok (.isub, 1) := by decide +kernel
theorem dX0_bringBehind_58 : decode cX0_bringBehind 58 = .ok (.istore 4, 2) := by decide +kernel
theorem dX0_bringBehind_60 : decode cX0_bringBehind 60 = .ok (.iload 4, 2) := by decide +kernel
theorem dX0_bringBehind_62 : decode cX0_bringBehind 62 = .ok (.iload_n 3, 1) := by decide +kernel
theorem dX0_bringBehind_63 : decode cX0_bringBehind 63 = .ok (.if_icmp .le 34, 3) := by decide +kernel
theorem dX0_bringBehind_66 : decode cX0_bringBehind 66 = .ok (.iload 4, 2) := by decide +kernel
theorem dX0_bringBehind_68 : decode cX0_bringBehind 68 = .ok (.ifCond .le 29, 3) := by decide +kernel
theorem dX0_bringBehind_71 : decode cX0_bringBehind 71 = .ok (.aload_n 0, 1) := by decide +kernel
theorem dX0_bringBehind_72 : decode cX0_bringBehind 72 = .ok (.getfield 32, 3) := by decide +kernel
theorem dX0_bringBehind_75 : decode cX0_bringBehind 75 = .ok (.iload 4, 2) := by decide +kernel
theorem dX0_bringBehind_77 : decode cX0_bringBehind 77 = .ok (.aload_n 0, 1) := by decide +kernel
theorem dX0_bringBehind_78 : decode cX0_bringBehind 78 = .ok (.getfield 32, 3) := by decide +kernel
theorem dX0_bringBehind_81 : decode cX0_bringBehind 81 = .ok (.iload 4, 2) := by decide +kernel
theorem dX0_bringBehind_83 : decode cX0_bringBehind 83 = .ok (.iconst 1, 1) := by decide +kernel
theorem dX0_bringBehind_84 : decode cX0_bringBehind 84 = .ok (.isub, 1) := by decide +kernel
theorem dX0_bringBehind_85 : decode cX0_bringBehind 85 = .ok (.invokevirtual 60, 3) := by decide +kernel
theorem dX0_bringBehind_88 : decode cX0_bringBehind 88 = .ok (.invokevirtual 49, 3) := by decide +kernel
theorem dX0_bringBehind_91 : decode cX0_bringBehind 91 = .ok (.iinc 4 (-1), 3) := by decide +kernel
theorem dX0_bringBehind_94 : decode cX0_bringBehind 94 = .ok (.goto (-34), 3) := by decide +kernel
theorem dX0_bringBehind_97 : decode cX0_bringBehind 97 = .ok (.aload_n 0, 1) := by decide +kernel
theorem dX0_bringBehind_98 : decode cX0_bringBehind 98 = .ok (.getfield 32, 3) := by decide +kernel
theorem dX0_bringBehind_101 : decode cX0_bringBehind 101 = .ok (.iload_n 3, 1) := by decide +kernel
theorem dX0_bringBehind_102 : decode cX0_bringBehind 102 = .ok (.iload_n 1, 1) := by decide +kernel
theorem dX0_bringBehind_103 : decode cX0_bringBehind 103 = .ok (.invokevirtual 49, 3) := by decide +kernel
theorem dX0_bringBehind_106 : decode cX0_bringBehind 106 = .ok (.aload_n 0, 1) := by decide +kernel
theorem dX0_bringBehind_107 : decode cX0_bringBehind 107 = .ok (.invokevirtual 53, 3) := by decide +kernel
theorem dX0_bringBehind_110 : decode cX0_bringBehind 110 = .ok (.return_, 1) := by decide +kernel
theorem dX0_toggleWriting_0 : decode cX0_toggleWriting 0 = .ok (.aload_n 0, 1) := by decide +kernel
theorem dX0_toggleWriting_1 : decode cX0_toggleWriting 1 = .ok (.getfield 29, 3) := by decide +kernel
theorem dX0_toggleWriting_4 : decode cX0_toggleWriting 4 = .ok (.iload_n 1, 1) := by decide +kernel
theorem dX0_toggleWriting_5 : decode cX0_toggleWriting 5 = .ok (.iconst 1, 1) := by decide +kernel
theorem dX0_toggleWriting_6 : decode cX0_toggleWriting 6 = .ok (.aload_n 0, 1) := by decide +kernel
theorem dX0_toggleWriting_7 : decode cX0_toggleWriting 7 = .ok (.getfield 29, 3) := by decide +kernel
theorem dX0_toggleWriting_10 : decode cX0_toggleWriting 10 = .ok (.iload_n 1, 1) := by decide +kernel
theorem dX0_toggleWriting_11 : decode cX0_toggleWriting 11 = .ok (.invokevirtual 60, 3) := by decide +kernel
theorem dX0_toggleWriting_14 : decode cX0_toggleWriting 14 = .ok (.isub, 1) := by decide +kernel
theorem dX0_toggleWriting_15 : decode cX0_toggleWriting 15 = .ok (.invokevirtual 49, 3) := by decide +kernel
theorem dX0_toggleWriting_18 : decode cX0_toggleWriting 18 = .ok (.aload_n 0, 1) := by decide +kernel
theorem dX0_toggleWriting_19 : decode cX0_toggleWriting 19 = .ok (.invokevirtual 53, 3) := by decide +kernel
theorem dX0_toggleWriting_22 : decode cX0_toggleWriting 22 = .ok (.return_, 1) := by decide +kernel
theorem dX0_tellEnders_0 : decode cX0_tellEnders 0 = .ok (.bipush (-9), 2) := by decide +kernel
theorem dX0_tellEnders_2 : decode cX0_tellEnders 2 = .ok (.istore_n 1, 1) := by decide +kernel
theorem dX0_tellEnders_3 : decode cX0_tellEnders 3 = .ok (.iconst 2, 1) := by decide +kernel
theorem dX0_tellEnders_4 : decode cX0_tellEnders 4 = .ok (.aload_n 0, 1) := by decide +kernel
theorem dX0_tellEnders_5 : decode cX0_tellEnders 5 = .ok (.getfield 38, 3) := by decide +kernel
theorem dX0_tellEnders_8 : decode cX0_tellEnders 8 = .ok (.imul, 1) := by decide +kernel
theorem dX0_tellEnders_9 : decode cX0_tellEnders 9 = .ok (.iconst 1, 1) := by decide +kernel
theorem dX0_tellEnders_10 : decode cX0_tellEnders 10 = .ok (.isub, 1) := by decide +kernel
theorem dX0_tellEnders_11 : decode cX0_tellEnders 11 = .ok (.istore_n 2, 1) := by decide +kernel
theorem dX0_tellEnders_12 : decode cX0_tellEnders 12 = .ok (.iload_n 2, 1) := by decide +kernel
theorem dX0_tellEnders_13 : decode cX0_tellEnders 13 = .ok (.ifCond .lt 64, 3) := by decide +kernel
theorem dX0_tellEnders_16 : decode cX0_tellEnders 16 = .ok (.aload_n 0, 1) := by decide +kernel
theorem dX0_tellEnders_17 : decode cX0_tellEnders 17 = .ok (.getfield 32, 3) := by decide +kernel
theorem dX0_tellEnders_20 : decode cX0_tellEnders 20 = .ok (.iload_n 2, 1) := by decide +kernel
theorem dX0_tellEnders_21 : decode cX0_tellEnders 21 = .ok (.aload_n 0, 1) := by decide +kernel
theorem dX0_tellEnders_22 : decode cX0_tellEnders 22 = .ok (.getfield 38, 3) := by decide +kernel
theorem dX0_tellEnders_25 : decode cX0_tellEnders 25 = .ok (.if_icmp .ge 7, 3) := by decide +kernel
theorem dX0_tellEnders_28 : decode cX0_tellEnders 28 = .ok (.iload_n 2, 1) := by decide +kernel
theorem dX0_tellEnders_29 : decode cX0_tellEnders 29 = .ok (.goto 9, 3) := by decide +kernel
theorem dX0_tellEnders_32 : decode cX0_tellEnders 32 = .ok (.iload_n 2, 1) := by decide +kernel
theorem dX0_tellEnders_33 : decode cX0_tellEnders 33 = .ok (.aload_n 0, 1) := by decide +kernel
theorem dX0_tellEnders_34 : decode cX0_tellEnders 34 = .ok (.getfield 38, 3) := by decide +kernel
theorem dX0_tellEnders_37 : decode cX0_tellEnders 37 = .ok (.isub, 1) := by decide +kernel
theorem dX0_tellEnders_38 : decode cX0_tellEnders 38 = .ok (.invokevirtual 60, 3) := by decide +kernel
theorem dX0_tellEnders_41 : decode cX0_tellEnders 41 = .ok (.istore_n 3, 1) := by decide +kernel
theorem dX0_tellEnders_42 : decode cX0_tellEnders 42 = .ok (.aload_n 0, 1) := by decide +kernel
theorem dX0_tellEnders_43 : decode cX0_tellEnders 43 = .ok (.getfield 35, 3) := by decide +kernel
theorem dX0_tellEnders_46 : decode cX0_tellEnders 46 = .ok (.iload_n 3, 1) := by decide +kernel
theorem dX0_tellEnders_47 : decode cX0_tellEnders 47 = .ok (.iload_n 1, 1) := by decide +kernel
theorem dX0_tellEnders_48 : decode cX0_tellEnders 48 = .ok (.iload_n 3, 1) := by decide +kernel
theorem dX0_tellEnders_49 : decode cX0_tellEnders 49 = .ok (.if_icmp .ne 8, 3) := by decide +kernel
theorem dX0_tellEnders_52 : decode cX0_tellEnders 52 = .ok (.bipush (-9), 2) := by decide +kernel
theorem dX0_tellEnders_54 : decode cX0_tellEnders 54 = .ok (.goto 4, 3) := by decide +kernel
theorem dX0_tellEnders_57 : decode cX0_tellEnders 57 = .ok (.iload_n 1, 1) := by decide +kernel
theorem dX0_tellEnders_58 : decode cX0_tellEnders 58 = .ok (.invokevirtual 49, 3) := by decide +kernel
theorem dX0_tellEnders_61 : decode cX0_tellEnders 61 = .ok (.aload_n 0, 1) := by decide +kernel
theorem dX0_tellEnders_62 : decode cX0_tellEnders 62 = .ok (.iload_n 3, 1) := by decide +kernel
theorem dX0_tellEnders_63 : decode cX0_tellEnders 63 = .ok (.invokevirtual 73, 3) := by decide +kernel
theorem dX0_tellEnders_66 : decode cX0_tellEnders 66 = .ok (.ifCond .eq 5, 3) := by decide +kernel
theorem dX0_tellEnders_69 : decode cX0_tellEnders 69 = .ok (.iload_n 3, 1) := by decide +kernel
theorem dX0_tellEnders_70 : decode cX0_tellEnders 70 = .ok (.istore_n 1, 1) := by decide +kernel
theorem dX0_tellEnders_71 : decode cX0_tellEnders 71 = .ok (.iinc 2 (-1), 3) := by decide +kernel
theorem dX0_tellEnders_74 : decode cX0_tellEnders 74 = .ok (.goto (-62), 3) := by decide +kernel
theorem dX0_tellEnders_77 : decode cX0_tellEnders 77 = .ok (.return_, 1) := by decide +kernel
theorem dX0_isEnded_0 : decode cX0_isEnded 0 = .ok (.aload_n 0, 1) := by decide +kernel
theorem dX0_isEnded_1 : decode cX0_isEnded 1 = .ok (.iload_n 1, 1) := by decide +kernel
theorem dX0_isEnded_2 : decode cX0_isEnded 2 = .ok (.invokevirtual 73, 3) := by decide +kernel
theorem dX0_isEnded_5 : decode cX0_isEnded 5 = .ok (.ifCond .eq 18, 3) := by decide +kernel
theorem dX0_isEnded_8 : decode cX0_isEnded 8 = .ok (.aload_n 0, 1) := by decide +kernel
theorem dX0_isEnded_9 : decode cX0_isEnded 9 = .ok (.getfield 35, 3) := by decide +kernel
theorem dX0_isEnded_12 : decode cX0_isEnded 12 = .ok (.iload_n 1, 1) := by decide +kernel
theorem dX0_isEnded_13 : decode cX0_isEnded 13 = .ok (.invokevirtual 60, 3) := by decide +kernel
theorem dX0_isEnded_16 : decode cX0_isEnded 16 = .ok (.ifCond .lt 7, 3) := by decide +kernel
theorem dX0_isEnded_19 : decode cX0_isEnded 19 = .ok (.iconst 1, 1) := by decide +kernel
theorem dX0_isEnded_20 : decode cX0_isEnded 20 = .ok (.goto 4, 3) := by decide +kernel
theorem dX0_isEnded_23 : decode cX0_isEnded 23 = .ok (.iconst 0, 1) := by decide +kernel
theorem dX0_isEnded_24 : decode cX0_isEnded 24 = .ok (.ireturn, 1) := by decide +kernel
theorem dX0_opensOf_0 : decode cX0_opensOf 0 = .ok (.aload_n 0, 1) := by decide +kernel
theorem dX0_opensOf_1 : decode cX0_opensOf 1 = .ok (.getfield 23, 3) := by decide +kernel
theorem dX0_opensOf_4 : decode cX0_opensOf 4 = .ok (.iload_n 1, 1) := by decide +kernel
theorem dX0_opensOf_5 : decode cX0_opensOf 5 = .ok (.invokevirtual 60, 3) := by decide +kernel
theorem dX0_opensOf_8 : decode cX0_opensOf 8 = .ok (.aload_n 0, 1) := by decide +kernel
theorem dX0_opensOf_9 : decode cX0_opensOf 9 = .ok (.getfield 42, 3) := by decide +kernel
theorem dX0_opensOf_12 : decode cX0_opensOf 12 = .ok (.invokestatic 76, 3) := by decide +kernel
theorem dX0_opensOf_15 : decode cX0_opensOf 15 = .ok (.ireturn, 1) := by decide +kernel
theorem dX0_openAlike_0 : decode cX0_openAlike 0 = .ok (.aload_n 0, 1) := by decide +kernel
theorem dX0_openAlike_1 : decode cX0_openAlike 1 = .ok (.iload_n 1, 1) := by decide +kernel
theorem dX0_openAlike_2 : decode cX0_openAlike 2 = .ok (.invokevirtual 73, 3) := by decide +kernel
theorem dX0_openAlike_5 : decode cX0_openAlike 5 = .ok (.ifCond .eq 28, 3) := by decide +kernel
theorem dX0_openAlike_8 : decode cX0_openAlike 8 = .ok (.aload_n 0, 1) := by decide +kernel
theorem dX0_openAlike_9 : decode cX0_openAlike 9 = .ok (.iload_n 2, 1) := by decide +kernel
theorem dX0_openAlike_10 : decode cX0_openAlike 10 = .ok (.invokevirtual 73, 3) := by decide +kernel
theorem dX0_openAlike_13 : decode cX0_openAlike 13 = .ok (.ifCond .eq 20, 3) := by decide +kernel
theorem dX0_openAlike_16 : decode cX0_openAlike 16 = .ok (.aload_n 0, 1) := by decide +kernel
theorem dX0_openAlike_17 : decode cX0_openAlike 17 = .ok (.iload_n 1, 1) := by decide +kernel
theorem dX0_openAlike_18 : decode cX0_openAlike 18 = .ok (.invokevirtual 79, 3) := by decide +kernel
theorem dX0_openAlike_21 : decode cX0_openAlike 21 = .ok (.aload_n 0, 1) := by decide +kernel
theorem dX0_openAlike_22 : decode cX0_openAlike 22 = .ok (.iload_n 2, 1) := by decide +kernel
theorem dX0_openAlike_23 : decode cX0_openAlike 23 = .ok (.invokevirtual 79, 3) := by decide +kernel
theorem dX0_openAlike_26 : decode cX0_openAlike 26 = .ok (.if_icmp .ne 7, 3) := by decide +kernel
theorem dX0_openAlike_29 : decode cX0_openAlike 29 = .ok (.iconst 1, 1) := by decide +kernel
theorem dX0_openAlike_30 : decode cX0_openAlike 30 = .ok (.goto 4, 3) := by decide +kernel
theorem dX0_openAlike_33 : decode cX0_openAlike 33 = .ok (.iconst 0, 1) := by decide +kernel
theorem dX0_openAlike_34 : decode cX0_openAlike 34 = .ok (.ireturn, 1) := by decide +kernel
theorem dX0_endBy_0 : decode cX0_endBy 0 = .ok (.aload_n 0, 1) := by decide +kernel
theorem dX0_endBy_1 : decode cX0_endBy 1 = .ok (.getfield 14, 3) := by decide +kernel
theorem dX0_endBy_4 : decode cX0_endBy 4 = .ok (.iload_n 1, 1) := by decide +kernel
theorem dX0_endBy_5 : decode cX0_endBy 5 = .ok (.invokevirtual 60, 3) := by decide +kernel
theorem dX0_endBy_8 : decode cX0_endBy 8 = .ok (.aload_n 0, 1) := by decide +kernel
theorem dX0_endBy_9 : decode cX0_endBy 9 = .ok (.getfield 20, 3) := by decide +kernel
theorem dX0_endBy_12 : decode cX0_endBy 12 = .ok (.iload_n 1, 1) := by decide +kernel
theorem dX0_endBy_13 : decode cX0_endBy 13 = .ok (.invokevirtual 60, 3) := by decide +kernel
theorem dX0_endBy_16 : decode cX0_endBy 16 = .ok (.iload_n 2, 1) := by decide +kernel
theorem dX0_endBy_17 : decode cX0_endBy 17 = .ok (.invokestatic 82, 3) := by decide +kernel
theorem dX0_endBy_20 : decode cX0_endBy 20 = .ok (.ireturn, 1) := by decide +kernel
theorem dX0_endsOf_0 : decode cX0_endsOf 0 = .ok (.aload_n 0, 1) := by decide +kernel
theorem dX0_endsOf_1 : decode cX0_endsOf 1 = .ok (.iload_n 1, 1) := by decide +kernel
theorem dX0_endsOf_2 : decode cX0_endsOf 2 = .ok (.invokevirtual 86, 3) := by decide +kernel
theorem dX0_endsOf_5 : decode cX0_endsOf 5 = .ok (.ifCond .eq 23, 3) := by decide +kernel
theorem dX0_endsOf_8 : decode cX0_endsOf 8 = .ok (.aload_n 0, 1) := by decide +kernel
theorem dX0_endsOf_9 : decode cX0_endsOf 9 = .ok (.aload_n 0, 1) := by decide +kernel
theorem dX0_endsOf_10 : decode cX0_endsOf 10 = .ok (.getfield 35, 3) := by decide +kernel
theorem dX0_endsOf_13 : decode cX0_endsOf 13 = .ok (.iload_n 1, 1) := by decide +kernel
theorem dX0_endsOf_14 : decode cX0_endsOf 14 = .ok (.invokevirtual 60, 3) := by decide +kernel
theorem dX0_endsOf_17 : decode cX0_endsOf 17 = .ok (.aload_n 0, 1) := by decide +kernel
theorem dX0_endsOf_18 : decode cX0_endsOf 18 = .ok (.iload_n 1, 1) := by decide +kernel
theorem dX0_endsOf_19 : decode cX0_endsOf 19 = .ok (.invokevirtual 79, 3) := by decide +kernel
theorem dX0_endsOf_22 : decode cX0_endsOf 22 = .ok (.invokevirtual 89, 3) := by decide +kernel
theorem dX0_endsOf_25 : decode cX0_endsOf 25 = .ok (.goto 5, 3) := by decide +kernel
theorem dX0_endsOf_28 : decode cX0_endsOf 28 = .ok (.bipush (-9), 2) := by decide +kernel
theorem dX0_endsOf_30 : decode cX0_endsOf 30 = .ok (.ireturn, 1) := by decide +kernel
theorem dX0_worthEndedBy_0 : decode cX0_worthEndedBy 0 = .ok (.aload_n 0, 1) := by decide +kernel
theorem dX0_worthEndedBy_1 : decode cX0_worthEndedBy 1 = .ok (.getfield 23, 3) := by decide +kernel
theorem dX0_worthEndedBy_4 : decode cX0_worthEndedBy 4 = .ok (.iload_n 1, 1) := by decide +kernel
theorem dX0_worthEndedBy_5 : decode cX0_worthEndedBy 5 = .ok (.invokevirtual 60, 3) := by decide +kernel
theorem dX0_worthEndedBy_8 : decode cX0_worthEndedBy 8 = .ok (.aload_n 0, 1) := by decide +kernel
theorem dX0_worthEndedBy_9 : decode cX0_worthEndedBy 9 = .ok (.getfield 42, 3) := by decide +kernel
theorem dX0_worthEndedBy_12 : decode cX0_worthEndedBy 12 = .ok (.invokestatic 76, 3) := by decide +kernel
theorem dX0_worthEndedBy_15 : decode cX0_worthEndedBy 15 = .ok (.istore_n 3, 1) := by decide +kernel
theorem dX0_worthEndedBy_16 : decode cX0_worthEndedBy 16 = .ok (.aload_n 0, 1) := by decide +kernel
theorem dX0_worthEndedBy_17 : decode cX0_worthEndedBy 17 = .ok (.getfield 14, 3) := by decide +kernel
theorem dX0_worthEndedBy_20 : decode cX0_worthEndedBy 20 = .ok (.iload_n 2, 1) := by decide +kernel
theorem dX0_worthEndedBy_21 : decode cX0_worthEndedBy 21 = .ok (.invokevirtual 60, 3) := by decide +kernel
theorem dX0_worthEndedBy_24 : decode cX0_worthEndedBy 24 = .ok (.aload_n 0, 1) := by decide +kernel
theorem dX0_worthEndedBy_25 : decode cX0_worthEndedBy 25 = .ok (.getfield 20, 3) := by decide +kernel
theorem dX0_worthEndedBy_28 : decode cX0_worthEndedBy 28 = .ok (.iload_n 2, 1) := by decide +kernel
theorem dX0_worthEndedBy_29 : decode cX0_worthEndedBy 29 = .ok (.invokevirtual 60, 3) := by decide +kernel
theorem dX0_worthEndedBy_32 : decode cX0_worthEndedBy 32 = .ok (.iload_n 3, 1) := by decide +kernel
theorem dX0_worthEndedBy_33 : decode cX0_worthEndedBy 33 = .ok (.invokestatic 82, 3) := by decide +kernel
theorem dX0_worthEndedBy_36 : decode cX0_worthEndedBy 36 = .ok (.istore 4, 2) := by decide +kernel
theorem dX0_worthEndedBy_38 : decode cX0_worthEndedBy 38 = .ok (.iload_n 3, 1) := by decide +kernel
theorem dX0_worthEndedBy_39 : decode cX0_worthEndedBy 39 = .ok (.iload 4, 2) := by decide +kernel
theorem dX0_worthEndedBy_41 : decode cX0_worthEndedBy 41 = .ok (.invokestatic 92, 3) := by decide +kernel
theorem dX0_worthEndedBy_44 : decode cX0_worthEndedBy 44 = .ok (.ireturn, 1) := by decide +kernel
theorem dX0_worthOf_0 : decode cX0_worthOf 0 = .ok (.aload_n 0, 1) := by decide +kernel
theorem dX0_worthOf_1 : decode cX0_worthOf 1 = .ok (.iload_n 1, 1) := by decide +kernel
theorem dX0_worthOf_2 : decode cX0_worthOf 2 = .ok (.invokevirtual 86, 3) := by decide +kernel
theorem dX0_worthOf_5 : decode cX0_worthOf 5 = .ok (.ifCond .eq 19, 3) := by decide +kernel
theorem dX0_worthOf_8 : decode cX0_worthOf 8 = .ok (.aload_n 0, 1) := by decide +kernel
theorem dX0_worthOf_9 : decode cX0_worthOf 9 = .ok (.iload_n 1, 1) := by decide +kernel
theorem dX0_worthOf_10 : decode cX0_worthOf 10 = .ok (.aload_n 0, 1) := by decide +kernel
theorem dX0_worthOf_11 : decode cX0_worthOf 11 = .ok (.getfield 35, 3) := by decide +kernel
theorem dX0_worthOf_14 : decode cX0_worthOf 14 = .ok (.iload_n 1, 1) := by decide +kernel
theorem dX0_worthOf_15 : decode cX0_worthOf 15 = .ok (.invokevirtual 60, 3) := by decide +kernel
theorem dX0_worthOf_18 : decode cX0_worthOf 18 = .ok (.invokevirtual 95, 3) := by decide +kernel
theorem dX0_worthOf_21 : decode cX0_worthOf 21 = .ok (.goto 4, 3) := by decide +kernel
theorem dX0_worthOf_24 : decode cX0_worthOf 24 = .ok (.iconst 0, 1) := by decide +kernel
theorem dX0_worthOf_25 : decode cX0_worthOf 25 = .ok (.ireturn, 1) := by decide +kernel
theorem dX0_allWorth_0 : decode cX0_allWorth 0 = .ok (.iconst 0, 1) := by decide +kernel
theorem dX0_allWorth_1 : decode cX0_allWorth 1 = .ok (.istore_n 1, 1) := by decide +kernel
theorem dX0_allWorth_2 : decode cX0_allWorth 2 = .ok (.iconst 0, 1) := by decide +kernel
theorem dX0_allWorth_3 : decode cX0_allWorth 3 = .ok (.istore_n 2, 1) := by decide +kernel
theorem dX0_allWorth_4 : decode cX0_allWorth 4 = .ok (.iload_n 2, 1) := by decide +kernel
theorem dX0_allWorth_5 : decode cX0_allWorth 5 = .ok (.aload_n 0, 1) := by decide +kernel
theorem dX0_allWorth_6 : decode cX0_allWorth 6 = .ok (.getfield 38, 3) := by decide +kernel
theorem dX0_allWorth_9 : decode cX0_allWorth 9 = .ok (.if_icmp .ge 17, 3) := by decide +kernel
theorem dX0_allWorth_12 : decode cX0_allWorth 12 = .ok (.iload_n 1, 1) := by decide +kernel
theorem dX0_allWorth_13 : decode cX0_allWorth 13 = .ok (.aload_n 0, 1) := by decide +kernel
theorem dX0_allWorth_14 : decode cX0_allWorth 14 = .ok (.iload_n 2, 1) := by decide +kernel
theorem dX0_allWorth_15 : decode cX0_allWorth 15 = .ok (.invokevirtual 98, 3) := by decide +kernel
theorem dX0_allWorth_18 : decode cX0_allWorth 18 = .ok (.iadd, 1) := by decide +kernel
theorem dX0_allWorth_19 : decode cX0_allWorth 19 = .ok (.istore_n 1, 1) := by decide +kernel
theorem dX0_allWorth_20 : decode cX0_allWorth 20 = .ok (.iinc 2 1, 3) := by decide +kernel
theorem dX0_allWorth_23 : decode cX0_allWorth 23 = .ok (.goto (-19), 3) := by decide +kernel
theorem dX0_allWorth_26 : decode cX0_allWorth 26 = .ok (.iload_n 1, 1) := by decide +kernel
theorem dX0_allWorth_27 : decode cX0_allWorth 27 = .ok (.ireturn, 1) := by decide +kernel
theorem dX0_hasRoomFor_0 : decode cX0_hasRoomFor 0 = .ok (.iload_n 1, 1) := by decide +kernel
theorem dX0_hasRoomFor_1 : decode cX0_hasRoomFor 1 = .ok (.bipush 60, 2) := by decide +kernel
theorem dX0_hasRoomFor_3 : decode cX0_hasRoomFor 3 = .ok (.if_icmp .gt 19, 3) := by decide +kernel
theorem dX0_hasRoomFor_6 : decode cX0_hasRoomFor 6 = .ok (.aload_n 0, 1) := by decide +kernel
theorem dX0_hasRoomFor_7 : decode cX0_hasRoomFor 7 = .ok (.getfield 42, 3) := by decide +kernel
theorem dX0_hasRoomFor_10 : decode cX0_hasRoomFor 10 = .ok (.iload_n 1, 1) := by decide +kernel
theorem dX0_hasRoomFor_11 : decode cX0_hasRoomFor 11 = .ok (.iadd, 1) := by decide +kernel
theorem dX0_hasRoomFor_12 : decode cX0_hasRoomFor 12 = .ok (.sipush 999, 3) := by decide +kernel
theorem dX0_hasRoomFor_15 : decode cX0_hasRoomFor 15 = .ok (.if_icmp .gt 7, 3) := by decide +kernel
theorem dX0_hasRoomFor_18 : decode cX0_hasRoomFor 18 = .ok (.iconst 1, 1) := by decide +kernel
theorem dX0_hasRoomFor_19 : decode cX0_hasRoomFor 19 = .ok (.goto 4, 3) := by decide +kernel
theorem dX0_hasRoomFor_22 : decode cX0_hasRoomFor 22 = .ok (.iconst 0, 1) := by decide +kernel
theorem dX0_hasRoomFor_23 : decode cX0_hasRoomFor 23 = .ok (.ireturn, 1) := by decide +kernel
theorem dX0_passYears_0 : decode cX0_passYears 0 = .ok (.iconst 0, 1) := by decide +kernel
theorem dX0_passYears_1 : decode cX0_passYears 1 = .ok (.istore_n 2, 1) := by decide +kernel
theorem dX0_passYears_2 : decode cX0_passYears 2 = .ok (.iload_n 2, 1) := by decide +kernel
theorem dX0_passYears_3 : decode cX0_passYears 3 = .ok (.iload_n 1, 1) := by decide +kernel
theorem dX0_passYears_4 : decode cX0_passYears 4 = .ok (.if_icmp .ge 46, 3) := by decide +kernel
theorem dX0_passYears_7 : decode cX0_passYears 7 = .ok (.iload_n 2, 1) := by decide +kernel
theorem dX0_passYears_8 : decode cX0_passYears 8 = .ok (.bipush 60, 2) := by decide +kernel
theorem dX0_passYears_10 : decode cX0_passYears 10 = .ok (.if_icmp .ge 40, 3) := by decide +kernel
theorem dX0_passYears_13 : decode cX0_passYears 13 = .ok (.aload_n 0, 1) := by decide +kernel
theorem dX0_passYears_14 : decode cX0_passYears 14 = .ok (.dup, 1) := by decide +kernel
theorem dX0_passYears_15 : decode cX0_passYears 15 = .ok (.getfield 42, 3) := by decide +kernel
theorem dX0_passYears_18 : decode cX0_passYears 18 = .ok (.iconst 1, 1) := by decide +kernel
theorem dX0_passYears_19 : decode cX0_passYears 19 = .ok (.iadd, 1) := by decide +kernel
theorem dX0_passYears_20 : decode cX0_passYears 20 = .ok (.putfield 42, 3) := by decide +kernel
theorem dX0_passYears_23 : decode cX0_passYears 23 = .ok (.iconst 0, 1) := by decide +kernel
theorem dX0_passYears_24 : decode cX0_passYears 24 = .ok (.istore_n 3, 1) := by decide +kernel
theorem dX0_passYears_25 : decode cX0_passYears 25 = .ok (.iload_n 3, 1) := by decide +kernel
theorem dX0_passYears_26 : decode cX0_passYears 26 = .ok (.aload_n 0, 1) := by decide +kernel
theorem dX0_passYears_27 : decode cX0_passYears 27 = .ok (.getfield 38, 3) := by decide +kernel
theorem dX0_passYears_30 : decode cX0_passYears 30 = .ok (.if_icmp .ge 14, 3) := by decide +kernel
theorem dX0_passYears_33 : decode cX0_passYears 33 = .ok (.aload_n 0, 1) := by decide +kernel
theorem dX0_passYears_34 : decode cX0_passYears 34 = .ok (.iload_n 3, 1) := by decide +kernel
theorem dX0_passYears_35 : decode cX0_passYears 35 = .ok (.invokevirtual 101, 3) := by decide +kernel
theorem dX0_passYears_38 : decode cX0_passYears 38 = .ok (.iinc 3 1, 3) := by decide +kernel
theorem dX0_passYears_41 : decode cX0_passYears 41 = .ok (.goto (-16), 3) := by decide +kernel
theorem dX0_passYears_44 : decode cX0_passYears 44 = .ok (.iinc 2 1, 3) := by decide +kernel
theorem dX0_passYears_47 : decode cX0_passYears 47 = .ok (.goto (-45), 3) := by decide +kernel
theorem dX0_passYears_50 : decode cX0_passYears 50 = .ok (.return_, 1) := by decide +kernel
theorem dX0_bookIsRead_0 : decode cX0_bookIsRead 0 = .ok (.aload_n 0, 1) := by decide +kernel
theorem dX0_bookIsRead_1 : decode cX0_bookIsRead 1 = .ok (.getfield 35, 3) := by decide +kernel
theorem dX0_bookIsRead_4 : decode cX0_bookIsRead 4 = .ok (.iload_n 1, 1) := by decide +kernel
theorem dX0_bookIsRead_5 : decode cX0_bookIsRead 5 = .ok (.invokevirtual 60, 3) := by decide +kernel
theorem dX0_bookIsRead_8 : decode cX0_bookIsRead 8 = .ok (.istore_n 2, 1) := by decide +kernel
theorem dX0_bookIsRead_9 : decode cX0_bookIsRead 9 = .ok (.aload_n 0, 1) := by decide +kernel
theorem dX0_bookIsRead_10 : decode cX0_bookIsRead 10 = .ok (.iload_n 1, 1) := by decide +kernel
theorem dX0_bookIsRead_11 : decode cX0_bookIsRead 11 = .ok (.invokevirtual 73, 3) := by decide +kernel
theorem dX0_bookIsRead_14 : decode cX0_bookIsRead 14 = .ok (.ifCond .eq 34, 3) := by decide +kernel
theorem dX0_bookIsRead_17 : decode cX0_bookIsRead 17 = .ok (.iload_n 2, 1) := by decide +kernel
theorem dX0_bookIsRead_18 : decode cX0_bookIsRead 18 = .ok (.ifCond .lt 30, 3) := by decide +kernel
theorem dX0_bookIsRead_21 : decode cX0_bookIsRead 21 = .ok (.aload_n 0, 1) := by decide +kernel
theorem dX0_bookIsRead_22 : decode cX0_bookIsRead 22 = .ok (.iload_n 1, 1) := by decide +kernel
theorem dX0_bookIsRead_23 : decode cX0_bookIsRead 23 = .ok (.aload_n 0, 1) := by decide +kernel
theorem dX0_bookIsRead_24 : decode cX0_bookIsRead 24 = .ok (.iload_n 1, 1) := by decide +kernel
theorem dX0_bookIsRead_25 : decode cX0_bookIsRead 25 = .ok (.iload_n 2, 1) := by decide +kernel
theorem dX0_bookIsRead_26 : decode cX0_bookIsRead 26 = .ok (.invokevirtual 95, 3) := by decide +kernel
theorem dX0_bookIsRead_29 : decode cX0_bookIsRead 29 = .ok (.invokevirtual 104, 3) := by decide +kernel
theorem dX0_bookIsRead_32 : decode cX0_bookIsRead 32 = .ok (.aload_n 0, 1) := by decide +kernel
theorem dX0_bookIsRead_33 : decode cX0_bookIsRead 33 = .ok (.iload_n 2, 1) := by decide +kernel
theorem dX0_bookIsRead_34 : decode cX0_bookIsRead 34 = .ok (.aload_n 0, 1) := by decide +kernel
theorem dX0_bookIsRead_35 : decode cX0_bookIsRead 35 = .ok (.getfield 14, 3) := by decide +kernel
theorem dX0_bookIsRead_38 : decode cX0_bookIsRead 38 = .ok (.iload_n 2, 1) := by decide +kernel
theorem dX0_bookIsRead_39 : decode cX0_bookIsRead 39 = .ok (.invokevirtual 60, 3) := by decide +kernel
theorem dX0_bookIsRead_42 : decode cX0_bookIsRead 42 = .ok (.invokestatic 107, 3) := by decide +kernel
theorem dX0_bookIsRead_45 : decode cX0_bookIsRead 45 = .ok (.invokevirtual 104, 3) := by decide +kernel
theorem dX0_bookIsRead_48 : decode cX0_bookIsRead 48 = .ok (.return_, 1) := by decide +kernel
theorem dX0_addFame_0 : decode cX0_addFame 0 = .ok (.aload_n 0, 1) := by decide +kernel
theorem dX0_addFame_1 : decode cX0_addFame 1 = .ok (.getfield 26, 3) := by decide +kernel
theorem dX0_addFame_4 : decode cX0_addFame 4 = .ok (.iload_n 1, 1) := by decide +kernel
theorem dX0_addFame_5 : decode cX0_addFame 5 = .ok (.iconst 0, 1) := by decide +kernel
theorem dX0_addFame_6 : decode cX0_addFame 6 = .ok (.bipush 99, 2) := by decide +kernel
theorem dX0_addFame_8 : decode cX0_addFame 8 = .ok (.aload_n 0, 1) := by decide +kernel
theorem dX0_addFame_9 : decode cX0_addFame 9 = .ok (.getfield 26, 3) := by decide +kernel
theorem dX0_addFame_12 : decode cX0_addFame 12 = .ok (.iload_n 1, 1) := by decide +kernel
theorem dX0_addFame_13 : decode cX0_addFame 13 = .ok (.invokevirtual 60, 3) := by decide +kernel
theorem dX0_addFame_16 : decode cX0_addFame 16 = .ok (.iload_n 2, 1) := by decide +kernel
theorem dX0_addFame_17 : decode cX0_addFame 17 = .ok (.iadd, 1) := by decide +kernel
theorem dX0_addFame_18 : decode cX0_addFame 18 = .ok (.invokestatic 110, 3) := by decide +kernel
theorem dX0_addFame_21 : decode cX0_addFame 21 = .ok (.invokestatic 67, 3) := by decide +kernel
theorem dX0_addFame_24 : decode cX0_addFame 24 = .ok (.invokevirtual 49, 3) := by decide +kernel
theorem dX0_addFame_27 : decode cX0_addFame 27 = .ok (.return_, 1) := by decide +kernel
theorem dX0_forgotten_0 : decode cX0_forgotten 0 = .ok (.iconst 0, 1) := by decide +kernel
theorem dX0_forgotten_1 : decode cX0_forgotten 1 = .ok (.istore_n 1, 1) := by decide +kernel
theorem dX0_forgotten_2 : decode cX0_forgotten 2 = .ok (.iload_n 1, 1) := by decide +kernel
theorem dX0_forgotten_3 : decode cX0_forgotten 3 = .ok (.aload_n 0, 1) := by decide +kernel
theorem dX0_forgotten_4 : decode cX0_forgotten 4 = .ok (.getfield 38, 3) := by decide +kernel
theorem dX0_forgotten_7 : decode cX0_forgotten 7 = .ok (.if_icmp .ge 22, 3) := by decide +kernel
theorem dX0_forgotten_10 : decode cX0_forgotten 10 = .ok (.aload_n 0, 1) := by decide +kernel
theorem dX0_forgotten_11 : decode cX0_forgotten 11 = .ok (.getfield 26, 3) := by decide +kernel
theorem dX0_forgotten_14 : decode cX0_forgotten 14 = .ok (.iload_n 1, 1) := by decide +kernel
theorem dX0_forgotten_15 : decode cX0_forgotten 15 = .ok (.invokevirtual 60, 3) := by decide +kernel
theorem dX0_forgotten_18 : decode cX0_forgotten 18 = .ok (.ifCond .ne 5, 3) := by decide +kernel
theorem dX0_forgotten_21 : decode cX0_forgotten 21 = .ok (.iload_n 1, 1) := by decide +kernel
theorem dX0_forgotten_22 : decode cX0_forgotten 22 = .ok (.ireturn, 1) := by decide +kernel
theorem dX0_forgotten_23 : decode cX0_forgotten 23 = .ok (.iinc 1 1, 3) := by decide +kernel
theorem dX0_forgotten_26 : decode cX0_forgotten 26 = .ok (.goto (-24), 3) := by decide +kernel
theorem dX0_forgotten_29 : decode cX0_forgotten 29 = .ok (.bipush (-9), 2) := by decide +kernel
theorem dX0_forgotten_31 : decode cX0_forgotten 31 = .ok (.ireturn, 1) := by decide +kernel
theorem dX0_howManyForgotten_0 : decode cX0_howManyForgotten 0 = .ok (.iconst 0, 1) := by decide +kernel
theorem dX0_howManyForgotten_1 : decode cX0_howManyForgotten 1 = .ok (.istore_n 1, 1) := by decide +kernel
theorem dX0_howManyForgotten_2 : decode cX0_howManyForgotten 2 = .ok (.iconst 0, 1) := by decide +kernel
theorem dX0_howManyForgotten_3 : decode cX0_howManyForgotten 3 = .ok (.istore_n 2, 1) := by decide +kernel
theorem dX0_howManyForgotten_4 : decode cX0_howManyForgotten 4 = .ok (.iload_n 2, 1) := by decide +kernel
theorem dX0_howManyForgotten_5 : decode cX0_howManyForgotten 5 = .ok (.aload_n 0, 1) := by decide +kernel
theorem dX0_howManyForgotten_6 : decode cX0_howManyForgotten 6 = .ok (.getfield 38, 3) := by decide +kernel
theorem dX0_howManyForgotten_9 : decode cX0_howManyForgotten 9 = .ok (.if_icmp .ge 23, 3) := by decide +kernel
theorem dX0_howManyForgotten_12 : decode cX0_howManyForgotten 12 = .ok (.aload_n 0, 1) := by decide +kernel
theorem dX0_howManyForgotten_13 : decode cX0_howManyForgotten 13 = .ok (.getfield 26, 3) := by decide +kernel
theorem dX0_howManyForgotten_16 : decode cX0_howManyForgotten 16 = .ok (.iload_n 2, 1) := by decide +kernel
theorem dX0_howManyForgotten_17 : decode cX0_howManyForgotten 17 = .ok (.invokevirtual 60, 3) := by decide +kernel
theorem dX0_howManyForgotten_20 : decode cX0_howManyForgotten 20 = .ok (.ifCond .ne 6, 3) := by decide +kernel
theorem dX0_howManyForgotten_23 : decode cX0_howManyForgotten 23 = .ok (.iinc 1 1, 3) := by decide +kernel
theorem dX0_howManyForgotten_26 : decode cX0_howManyForgotten 26 = .ok (.iinc 2 1, 3) := by decide +kernel
theorem dX0_howManyForgotten_29 : decode cX0_howManyForgotten 29 = .ok (.goto (-25), 3) := by decide +kernel
theorem dX0_howManyForgotten_32 : decode cX0_howManyForgotten 32 = .ok (.iload_n 1, 1) := by decide +kernel
theorem dX0_howManyForgotten_33 : decode cX0_howManyForgotten 33 = .ok (.ireturn, 1) := by decide +kernel
theorem dX1_init_0 : decode cX1_init 0 = .ok (.aload_n 0, 1) := by decide +kernel
theorem dX1_init_1 : decode cX1_init 1 = .ok (.invokespecial 3, 3) := by decide +kernel
theorem dX1_init_4 : decode cX1_init 4 = .ok (.aload_n 0, 1) := by decide +kernel
theorem dX1_init_5 : decode cX1_init 5 = .ok (.new 9, 3) := by decide +kernel
theorem dX1_init_8 : decode cX1_init 8 = .ok (.dup, 1) := by decide +kernel
theorem dX1_init_9 : decode cX1_init 9 = .ok (.bipush 96, 2) := by decide +kernel
theorem dX1_init_11 : decode cX1_init 11 = .ok (.invokespecial 11, 3) := by decide +kernel
theorem dX1_init_14 : decode cX1_init 14 = .ok (.putfield 14, 3) := by decide +kernel
theorem dX1_init_17 : decode cX1_init 17 = .ok (.return_, 1) := by decide +kernel
theorem dX1_wrongPlace_0 : decode cX1_wrongPlace 0 = .ok (.iconst 0, 1) := by decide +kernel
theorem dX1_wrongPlace_1 : decode cX1_wrongPlace 1 = .ok (.istore_n 1, 1) := by decide +kernel
theorem dX1_wrongPlace_2 : decode cX1_wrongPlace 2 = .ok (.iconst 0, 1) := by decide +kernel
theorem dX1_wrongPlace_3 : decode cX1_wrongPlace 3 = .ok (.istore_n 2, 1) := by decide +kernel
theorem dX1_wrongPlace_4 : decode cX1_wrongPlace 4 = .ok (.iload_n 2, 1) := by decide +kernel
theorem dX1_wrongPlace_5 : decode cX1_wrongPlace 5 = .ok (.ifCond .eq 20, 3) := by decide +kernel
theorem dX1_wrongPlace_8 : decode cX1_wrongPlace 8 = .ok (.iload_n 2, 1) := by decide +kernel
theorem dX1_wrongPlace_9 : decode cX1_wrongPlace 9 = .ok (.bipush 96, 2) := by decide +kernel
theorem dX1_wrongPlace_11 : decode cX1_wrongPlace 11 = .ok (.if_icmp .ge 62, 3) := by decide +kernel
theorem dX1_wrongPlace_14 : decode cX1_wrongPlace 14 = .ok (.iload_n 1, 1) := by decide +kernel
theorem dX1_wrongPlace_15 : decode cX1_wrongPlace 15 = .ok (.aload_n 0, 1) := by decide +kernel
theorem dX1_wrongPlace_16 : decode cX1_wrongPlace 16 = .ok (.getfield 14, 3) := by decide +kernel
theorem dX1_wrongPlace_19 : decode cX1_wrongPlace 19 = .ok (.getfield 20, 3) := by decide +kernel
theorem dX1_wrongPlace_22 : decode cX1_wrongPlace 22 = .ok (.if_icmp .ge 51, 3) := by decide +kernel
theorem dX1_wrongPlace_25 : decode cX1_wrongPlace 25 = .ok (.aload_n 0, 1) := by decide +kernel
theorem dX1_wrongPlace_26 : decode cX1_wrongPlace 26 = .ok (.iload_n 1, 1) := by decide +kernel
theorem dX1_wrongPlace_27 : decode cX1_wrongPlace 27 = .ok (.invokevirtual 24, 3) := by decide +kernel
theorem dX1_wrongPlace_30 : decode cX1_wrongPlace 30 = .ok (.astore_n 3, 1) := by decide +kernel
theorem dX1_wrongPlace_31 : decode cX1_wrongPlace 31 = .ok (.aload_n 0, 1) := by decide +kernel
theorem dX1_wrongPlace_32 : decode cX1_wrongPlace 32 = .ok (.iload_n 1, 1) := by decide +kernel
theorem dX1_wrongPlace_33 : decode cX1_wrongPlace 33 = .ok (.aload_n 3, 1) := by decide +kernel
theorem dX1_wrongPlace_34 : decode cX1_wrongPlace 34 = .ok (.invokevirtual 28, 3) := by decide +kernel
theorem dX1_wrongPlace_37 : decode cX1_wrongPlace 37 = .ok (.istore 4, 2) := by decide +kernel
theorem dX1_wrongPlace_39 : decode cX1_wrongPlace 39 = .ok (.aload_n 3, 1) := by decide +kernel
theorem dX1_wrongPlace_40 : decode cX1_wrongPlace 40 = .ok (.invokevirtual 32, 3) := by decide +kernel
theorem dX1_wrongPlace_43 : decode cX1_wrongPlace 43 = .ok (.ifCond .ne 12, 3) := by decide +kernel
theorem dX1_wrongPlace_46 : decode cX1_wrongPlace 46 = .ok (.iload 4, 2) := by decide +kernel
theorem dX1_wrongPlace_48 : decode cX1_wrongPlace 48 = .ok (.aload_n 3, 1) := by decide +kernel
theorem dX1_wrongPlace_49 : decode cX1_wrongPlace 49 = .ok (.invokevirtual 38, 3) := by decide +kernel
theorem dX1_wrongPlace_52 : decode cX1_wrongPlace 52 = .ok (.if_icmp .ge 8, 3) := by decide +kernel
theorem dX1_wrongPlace_55 : decode cX1_wrongPlace 55 = .ok (.iload_n 1, 1) := by decide +kernel
theorem dX1_wrongPlace_56 : decode cX1_wrongPlace 56 = .ok (.iload 4, 2) := by decide +kernel
theorem dX1_wrongPlace_58 : decode cX1_wrongPlace 58 = .ok (.iadd, 1) := by decide +kernel
theorem dX1_wrongPlace_59 : decode cX1_wrongPlace 59 = .ok (.ireturn, 1) := by decide +kernel
theorem dX1_wrongPlace_60 : decode cX1_wrongPlace 60 = .ok (.iload_n 1, 1) := by decide +kernel
theorem dX1_wrongPlace_61 : decode cX1_wrongPlace 61 = .ok (.aload_n 3, 1) := by decide +kernel
theorem dX1_wrongPlace_62 : decode cX1_wrongPlace 62 = .ok (.invokevirtual 38, 3) := by decide +kernel
theorem dX1_wrongPlace_65 : decode cX1_wrongPlace 65 = .ok (.iadd, 1) := by decide +kernel
theorem dX1_wrongPlace_66 : decode cX1_wrongPlace 66 = .ok (.istore_n 1, 1) := by decide +kernel
theorem dX1_wrongPlace_67 : decode cX1_wrongPlace 67 = .ok (.iinc 2 1, 3) := by decide +kernel
theorem dX1_wrongPlace_70 : decode cX1_wrongPlace 70 = .ok (.goto (-66), 3) := by decide +kernel
theorem dX1_wrongPlace_73 : decode cX1_wrongPlace 73 = .ok (.iconst (-1), 1) := by decide +kernel
theorem dX1_wrongPlace_74 : decode cX1_wrongPlace 74 = .ok (.ireturn, 1) := by decide +kernel
theorem dX1_howManyFit_0 : decode cX1_howManyFit 0 = .ok (.iconst 0, 1) := by decide +kernel
theorem dX1_howManyFit_1 : decode cX1_howManyFit 1 = .ok (.istore_n 3, 1) := by decide +kernel
theorem dX1_howManyFit_2 : decode cX1_howManyFit 2 = .ok (.iload_n 3, 1) := by decide +kernel
theorem dX1_howManyFit_3 : decode cX1_howManyFit 3 = .ok (.aload_n 2, 1) := by decide +kernel
theorem dX1_howManyFit_4 : decode cX1_howManyFit 4 = .ok (.invokevirtual 38, 3) := by decide +kernel
theorem dX1_howManyFit_7 : decode cX1_howManyFit 7 = .ok (.if_icmp .ge 24, 3) := by decide +kernel
theorem dX1_howManyFit_10 : decode cX1_howManyFit 10 = .ok (.aload_n 0, 1) := by decide +kernel
theorem dX1_howManyFit_11 : decode cX1_howManyFit 11 = .ok (.iload_n 1, 1) := by decide +kernel
theorem dX1_howManyFit_12 : decode cX1_howManyFit 12 = .ok (.iload_n 3, 1) := by decide +kernel
theorem dX1_howManyFit_13 : decode cX1_howManyFit 13 = .ok (.iadd, 1) := by decide +kernel
theorem dX1_howManyFit_14 : decode cX1_howManyFit 14 = .ok (.aload_n 2, 1) := by decide +kernel
theorem dX1_howManyFit_15 : decode cX1_howManyFit 15 = .ok (.iload_n 3, 1) := by decide +kernel
theorem dX1_howManyFit_16 : decode cX1_howManyFit 16 = .ok (.invokevirtual 42, 3) := by decide +kernel
theorem dX1_howManyFit_19 : decode cX1_howManyFit 19 = .ok (.invokevirtual 46, 3) := by decide +kernel
theorem dX1_howManyFit_22 : decode cX1_howManyFit 22 = .ok (.ifCond .eq 9, 3) := by decide +kernel
theorem dX1_howManyFit_25 : decode cX1_howManyFit 25 = .ok (.iinc 3 1, 3) := by decide +kernel
theorem dX1_howManyFit_28 : decode cX1_howManyFit 28 = .ok (.goto (-26), 3) := by decide +kernel
theorem dX1_howManyFit_31 : decode cX1_howManyFit 31 = .ok (.iload_n 3, 1) := by decide +kernel
theorem dX1_howManyFit_32 : decode cX1_howManyFit 32 = .ok (.ireturn, 1) := by decide +kernel
theorem dX1_shapeAt_0 : decode cX1_shapeAt 0 = .ok (.iload_n 1, 1) := by decide +kernel
theorem dX1_shapeAt_1 : decode cX1_shapeAt 1 = .ok (.aload_n 0, 1) := by decide +kernel
theorem dX1_shapeAt_2 : decode cX1_shapeAt 2 = .ok (.getfield 14, 3) := by decide +kernel
theorem dX1_shapeAt_5 : decode cX1_shapeAt 5 = .ok (.getfield 20, 3) := by decide +kernel
theorem dX1_shapeAt_8 : decode cX1_shapeAt 8 = .ok (.if_icmp .lt 6, 3) := by decide +kernel
theorem dX1_shapeAt_11 : decode cX1_shapeAt 11 = .ok (.ldc 50, 2) := by decide +kernel
theorem dX1_shapeAt_13 : decode cX1_shapeAt 13 = .ok (.areturn, 1) := by decide +kernel
theorem dX1_shapeAt_14 : decode cX1_shapeAt 14 = .ok (.aload_n 0, 1) := by decide +kernel
theorem dX1_shapeAt_15 : decode cX1_shapeAt 15 = .ok (.getfield 14, 3) := by decide +kernel
theorem dX1_shapeAt_18 : decode cX1_shapeAt 18 = .ok (.iload_n 1, 1) := by decide +kernel
theorem dX1_shapeAt_19 : decode cX1_shapeAt 19 = .ok (.invokevirtual 52, 3) := by decide +kernel
theorem dX1_shapeAt_22 : decode cX1_shapeAt 22 = .ok (.tableswitch 112 102 121 #[106, 112, 112, 112, 112, 112, 112, 112, 112, 112, 112, 112, 112, 100, 103, 112, 112, 94, 97, 109], 94) := by decide +kernel
theorem dX1_shapeAt_116 : decode cX1_shapeAt 116 = .ok (.ldc 56, 2) := by decide +kernel
theorem dX1_shapeAt_118 : decode cX1_shapeAt 118 = .ok (.areturn, 1) := by decide +kernel
theorem dX1_shapeAt_119 : decode cX1_shapeAt 119 = .ok (.ldc 58, 2) := by decide +kernel
theorem dX1_shapeAt_121 : decode cX1_shapeAt 121 = .ok (.areturn, 1) := by decide +kernel
theorem dX1_shapeAt_122 : decode cX1_shapeAt 122 = .ok (.ldc 60, 2) := by decide +kernel
theorem dX1_shapeAt_124 : decode cX1_shapeAt 124 = .ok (.areturn, 1) := by decide +kernel
theorem dX1_shapeAt_125 : decode cX1_shapeAt 125 = .ok (.ldc 62, 2) := by decide +kernel
theorem dX1_shapeAt_127 : decode cX1_shapeAt 127 = .ok (.areturn, 1) := by decide +kernel
theorem dX1_shapeAt_128 : decode cX1_shapeAt 128 = .ok (.ldc 64, 2) := by decide +kernel
theorem dX1_shapeAt_130 : decode cX1_shapeAt 130 = .ok (.areturn, 1) := by decide +kernel
theorem dX1_shapeAt_131 : decode cX1_shapeAt 131 = .ok (.ldc 66, 2) := by decide +kernel
theorem dX1_shapeAt_133 : decode cX1_shapeAt 133 = .ok (.areturn, 1) := by decide +kernel
theorem dX1_shapeAt_134 : decode cX1_shapeAt 134 = .ok (.ldc 50, 2) := by decide +kernel
theorem dX1_shapeAt_136 : decode cX1_shapeAt 136 = .ok (.areturn, 1) := by decide +kernel
theorem dX1_fits_0 : decode cX1_fits 0 = .ok (.iload_n 1, 1) := by decide +kernel
theorem dX1_fits_1 : decode cX1_fits 1 = .ok (.aload_n 0, 1) := by decide +kernel
theorem dX1_fits_2 : decode cX1_fits 2 = .ok (.getfield 14, 3) := by decide +kernel
theorem dX1_fits_5 : decode cX1_fits 5 = .ok (.getfield 20, 3) := by decide +kernel
theorem dX1_fits_8 : decode cX1_fits 8 = .ok (.if_icmp .lt 5, 3) := by decide +kernel
theorem dX1_fits_11 : decode cX1_fits 11 = .ok (.iconst 0, 1) := by decide +kernel
theorem dX1_fits_12 : decode cX1_fits 12 = .ok (.ireturn, 1) := by decide +kernel
theorem dX1_fits_13 : decode cX1_fits 13 = .ok (.iload_n 2, 1) := by decide +kernel
theorem dX1_fits_14 : decode cX1_fits 14 = .ok (.bipush 107, 2) := by decide +kernel
theorem dX1_fits_16 : decode cX1_fits 16 = .ok (.if_icmp .ne 17, 3) := by decide +kernel
theorem dX1_fits_19 : decode cX1_fits 19 = .ok (.aload_n 0, 1) := by decide +kernel
theorem dX1_fits_20 : decode cX1_fits 20 = .ok (.iload_n 1, 1) := by decide +kernel
theorem dX1_fits_21 : decode cX1_fits 21 = .ok (.invokevirtual 68, 3) := by decide +kernel
theorem dX1_fits_24 : decode cX1_fits 24 = .ok (.ifCond .lt 7, 3) := by decide +kernel
theorem dX1_fits_27 : decode cX1_fits 27 = .ok (.iconst 1, 1) := by decide +kernel
theorem dX1_fits_28 : decode cX1_fits 28 = .ok (.goto 4, 3) := by decide +kernel
theorem dX1_fits_31 : decode cX1_fits 31 = .ok (.iconst 0, 1) := by decide +kernel
theorem dX1_fits_32 : decode cX1_fits 32 = .ok (.ireturn, 1) := by decide +kernel
theorem dX1_fits_33 : decode cX1_fits 33 = .ok (.iload_n 2, 1) := by decide +kernel
theorem dX1_fits_34 : decode cX1_fits 34 = .ok (.bipush 48, 2) := by decide +kernel
theorem dX1_fits_36 : decode cX1_fits 36 = .ok (.if_icmp .ne 25, 3) := by decide +kernel
theorem dX1_fits_39 : decode cX1_fits 39 = .ok (.aload_n 0, 1) := by decide +kernel
theorem dX1_fits_40 : decode cX1_fits 40 = .ok (.iload_n 1, 1) := by decide +kernel
theorem dX1_fits_41 : decode cX1_fits 41 = .ok (.invokevirtual 71, 3) := by decide +kernel
theorem dX1_fits_44 : decode cX1_fits 44 = .ok (.istore_n 3, 1) := by decide +kernel
theorem dX1_fits_45 : decode cX1_fits 45 = .ok (.iload_n 3, 1) := by decide +kernel
theorem dX1_fits_46 : decode cX1_fits 46 = .ok (.ifCond .lt 13, 3) := by decide +kernel
theorem dX1_fits_49 : decode cX1_fits 49 = .ok (.iload_n 3, 1) := by decide +kernel
theorem dX1_fits_50 : decode cX1_fits 50 = .ok (.bipush 10, 2) := by decide +kernel
theorem dX1_fits_52 : decode cX1_fits 52 = .ok (.if_icmp .ge 7, 3) := by decide +kernel
theorem dX1_fits_55 : decode cX1_fits 55 = .ok (.iconst 1, 1) := by decide +kernel
theorem dX1_fits_56 : decode cX1_fits 56 = .ok (.goto 4, 3) := by decide +kernel
theorem dX1_fits_59 : decode cX1_fits 59 = .ok (.iconst 0, 1) := by decide +kernel
theorem dX1_fits_60 : decode cX1_fits 60 = .ok (.ireturn, 1) := by decide +kernel
theorem dX1_fits_61 : decode cX1_fits 61 = .ok (.aload_n 0, 1) := by decide +kernel
theorem dX1_fits_62 : decode cX1_fits 62 = .ok (.getfield 14, 3) := by decide +kernel
theorem dX1_fits_65 : decode cX1_fits 65 = .ok (.iload_n 1, 1) := by decide +kernel
theorem dX1_fits_66 : decode cX1_fits 66 = .ok (.invokevirtual 52, 3) := by decide +kernel
theorem dX1_fits_69 : decode cX1_fits 69 = .ok (.iload_n 2, 1) := by decide +kernel
theorem dX1_fits_70 : decode cX1_fits 70 = .ok (.if_icmp .ne 7, 3) := by decide +kernel
theorem dX1_fits_73 : decode cX1_fits 73 = .ok (.iconst 1, 1) := by decide +kernel
theorem dX1_fits_74 : decode cX1_fits 74 = .ok (.goto 4, 3) := by decide +kernel
theorem dX1_fits_77 : decode cX1_fits 77 = .ok (.iconst 0, 1) := by decide +kernel
theorem dX1_fits_78 : decode cX1_fits 78 = .ok (.ireturn, 1) := by decide +kernel
theorem dX1_kindAt_0 : decode cX1_kindAt 0 = .ok (.ldc 74, 2) := by decide +kernel
theorem dX1_kindAt_2 : decode cX1_kindAt 2 = .ok (.aload_n 0, 1) := by decide +kernel
theorem dX1_kindAt_3 : decode cX1_kindAt 3 = .ok (.getfield 14, 3) := by decide +kernel
theorem dX1_kindAt_6 : decode cX1_kindAt 6 = .ok (.iload_n 1, 1) := by decide +kernel
theorem dX1_kindAt_7 : decode cX1_kindAt 7 = .ok (.invokevirtual 52, 3) := by decide +kernel
theorem dX1_kindAt_10 : decode cX1_kindAt 10 = .ok (.i2c, 1) := by decide +kernel
theorem dX1_kindAt_11 : decode cX1_kindAt 11 = .ok (.invokevirtual 76, 3) := by decide +kernel
theorem dX1_kindAt_14 : decode cX1_kindAt 14 = .ok (.ireturn, 1) := by decide +kernel
theorem dX1_digitAt_0 : decode cX1_digitAt 0 = .ok (.aload_n 0, 1) := by decide +kernel
theorem dX1_digitAt_1 : decode cX1_digitAt 1 = .ok (.getfield 14, 3) := by decide +kernel
theorem dX1_digitAt_4 : decode cX1_digitAt 4 = .ok (.iload_n 1, 1) := by decide +kernel
theorem dX1_digitAt_5 : decode cX1_digitAt 5 = .ok (.invokevirtual 52, 3) := by decide +kernel
theorem dX1_digitAt_8 : decode cX1_digitAt 8 = .ok (.bipush 48, 2) := by decide +kernel
theorem dX1_digitAt_10 : decode cX1_digitAt 10 = .ok (.isub, 1) := by decide +kernel
theorem dX1_digitAt_11 : decode cX1_digitAt 11 = .ok (.ireturn, 1) := by decide +kernel
theorem dX2_init_0 : decode cX2_init 0 = .ok (.aload_n 0, 1) := by decide +kernel
theorem dX2_init_1 : decode cX2_init 1 = .ok (.invokespecial 3, 3) := by decide +kernel
theorem dX2_init_4 : decode cX2_init 4 = .ok (.aload_n 0, 1) := by decide +kernel
theorem dX2_init_5 : decode cX2_init 5 = .ok (.new 9, 3) := by decide +kernel
theorem dX2_init_8 : decode cX2_init 8 = .ok (.dup, 1) := by decide +kernel
theorem dX2_init_9 : decode cX2_init 9 = .ok (.bipush 49, 2) := by decide +kernel
theorem dX2_init_11 : decode cX2_init 11 = .ok (.invokespecial 11, 3) := by decide +kernel
theorem dX2_init_14 : decode cX2_init 14 = .ok (.putfield 14, 3) := by decide +kernel
theorem dX2_init_17 : decode cX2_init 17 = .ok (.aload_n 0, 1) := by decide +kernel
theorem dX2_init_18 : decode cX2_init 18 = .ok (.new 9, 3) := by decide +kernel
theorem dX2_init_21 : decode cX2_init 21 = .ok (.dup, 1) := by decide +kernel
theorem dX2_init_22 : decode cX2_init 22 = .ok (.bipush 7, 2) := by decide +kernel
theorem dX2_init_24 : decode cX2_init 24 = .ok (.invokespecial 11, 3) := by decide +kernel
theorem dX2_init_27 : decode cX2_init 27 = .ok (.putfield 20, 3) := by decide +kernel
theorem dX2_init_30 : decode cX2_init 30 = .ok (.aload_n 0, 1) := by decide +kernel
theorem dX2_init_31 : decode cX2_init 31 = .ok (.new 9, 3) := by decide +kernel
theorem dX2_init_34 : decode cX2_init 34 = .ok (.dup, 1) := by decide +kernel
theorem dX2_init_35 : decode cX2_init 35 = .ok (.bipush 7, 2) := by decide +kernel
theorem dX2_init_37 : decode cX2_init 37 = .ok (.invokespecial 11, 3) := by decide +kernel
theorem dX2_init_40 : decode cX2_init 40 = .ok (.putfield 23, 3) := by decide +kernel
theorem dX2_init_43 : decode cX2_init 43 = .ok (.aload_n 0, 1) := by decide +kernel
theorem dX2_init_44 : decode cX2_init 44 = .ok (.iconst 0, 1) := by decide +kernel
theorem dX2_init_45 : decode cX2_init 45 = .ok (.putfield 26, 3) := by decide +kernel
theorem dX2_init_48 : decode cX2_init 48 = .ok (.aload_n 0, 1) := by decide +kernel
theorem dX2_init_49 : decode cX2_init 49 = .ok (.iconst 0, 1) := by decide +kernel
theorem dX2_init_50 : decode cX2_init 50 = .ok (.putfield 30, 3) := by decide +kernel
theorem dX2_init_53 : decode cX2_init 53 = .ok (.aload_n 0, 1) := by decide +kernel
theorem dX2_init_54 : decode cX2_init 54 = .ok (.iconst 0, 1) := by decide +kernel
theorem dX2_init_55 : decode cX2_init 55 = .ok (.putfield 33, 3) := by decide +kernel
theorem dX2_init_58 : decode cX2_init 58 = .ok (.aload_n 0, 1) := by decide +kernel
theorem dX2_init_59 : decode cX2_init 59 = .ok (.iconst 0, 1) := by decide +kernel
theorem dX2_init_60 : decode cX2_init 60 = .ok (.putfield 37, 3) := by decide +kernel
theorem dX2_init_63 : decode cX2_init 63 = .ok (.return_, 1) := by decide +kernel
theorem dX2_seek_0 : decode cX2_seek 0 = .ok (.aload_n 0, 1) := by decide +kernel
theorem dX2_seek_1 : decode cX2_seek 1 = .ok (.aload_n 1, 1) := by decide +kernel
theorem dX2_seek_2 : decode cX2_seek 2 = .ok (.getfield 40, 3) := by decide +kernel
theorem dX2_seek_5 : decode cX2_seek 5 = .ok (.putfield 26, 3) := by decide +kernel
theorem dX2_seek_8 : decode cX2_seek 8 = .ok (.aload_n 0, 1) := by decide +kernel
theorem dX2_seek_9 : decode cX2_seek 9 = .ok (.aload_n 1, 1) := by decide +kernel
theorem dX2_seek_10 : decode cX2_seek 10 = .ok (.invokevirtual 43, 3) := by decide +kernel
theorem dX2_seek_13 : decode cX2_seek 13 = .ok (.putfield 30, 3) := by decide +kernel
theorem dX2_seek_16 : decode cX2_seek 16 = .ok (.aload_n 0, 1) := by decide +kernel
theorem dX2_seek_17 : decode cX2_seek 17 = .ok (.iconst 0, 1) := by decide +kernel
theorem dX2_seek_18 : decode cX2_seek 18 = .ok (.putfield 33, 3) := by decide +kernel
theorem dX2_seek_21 : decode cX2_seek 21 = .ok (.aload_n 0, 1) := by decide +kernel
theorem dX2_seek_22 : decode cX2_seek 22 = .ok (.iconst 0, 1) := by decide +kernel
theorem dX2_seek_23 : decode cX2_seek 23 = .ok (.putfield 37, 3) := by decide +kernel
theorem dX2_seek_26 : decode cX2_seek 26 = .ok (.aload_n 0, 1) := by decide +kernel
theorem dX2_seek_27 : decode cX2_seek 27 = .ok (.getfield 26, 3) := by decide +kernel
theorem dX2_seek_30 : decode cX2_seek 30 = .ok (.ifCond .ne 4, 3) := by decide +kernel
theorem dX2_seek_33 : decode cX2_seek 33 = .ok (.return_, 1) := by decide +kernel
theorem dX2_seek_34 : decode cX2_seek 34 = .ok (.iconst 0, 1) := by decide +kernel
theorem dX2_seek_35 : decode cX2_seek 35 = .ok (.istore_n 2, 1) := by decide +kernel
theorem dX2_seek_36 : decode cX2_seek 36 = .ok (.iload_n 2, 1) := by decide +kernel
theorem dX2_seek_37 : decode cX2_seek 37 = .ok (.aload_n 0, 1) := by decide +kernel
theorem dX2_seek_38 : decode cX2_seek 38 = .ok (.getfield 26, 3) := by decide +kernel
theorem dX2_seek_41 : decode cX2_seek 41 = .ok (.if_icmp .ge 44, 3) := by decide +kernel
theorem dX2_seek_44 : decode cX2_seek 44 = .ok (.iconst 0, 1) := by decide +kernel
theorem dX2_seek_45 : decode cX2_seek 45 = .ok (.istore_n 3, 1) := by decide +kernel
theorem dX2_seek_46 : decode cX2_seek 46 = .ok (.iload_n 3, 1) := by decide +kernel
theorem dX2_seek_47 : decode cX2_seek 47 = .ok (.aload_n 0, 1) := by decide +kernel
theorem dX2_seek_48 : decode cX2_seek 48 = .ok (.getfield 26, 3) := by decide +kernel
theorem dX2_seek_51 : decode cX2_seek 51 = .ok (.if_icmp .ge 28, 3) := by decide +kernel
theorem dX2_seek_54 : decode cX2_seek 54 = .ok (.aload_n 0, 1) := by decide +kernel
theorem dX2_seek_55 : decode cX2_seek 55 = .ok (.getfield 14, 3) := by decide +kernel
theorem dX2_seek_58 : decode cX2_seek 58 = .ok (.bipush 7, 2) := by decide +kernel
theorem dX2_seek_60 : decode cX2_seek 60 = .ok (.iload_n 2, 1) := by decide +kernel
theorem dX2_seek_61 : decode cX2_seek 61 = .ok (.imul, 1) := by decide +kernel
theorem dX2_seek_62 : decode cX2_seek 62 = .ok (.iload_n 3, 1) := by decide +kernel
theorem dX2_seek_63 : decode cX2_seek 63 = .ok (.iadd, 1) := by decide +kernel
theorem dX2_seek_64 : decode cX2_seek 64 = .ok (.aload_n 1, 1) := by decide +kernel
theorem dX2_seek_65 : decode cX2_seek 65 = .ok (.iload_n 2, 1) := by decide +kernel
theorem dX2_seek_66 : decode cX2_seek 66 = .ok (.iload_n 3, 1) := by decide +kernel
theorem dX2_seek_67 : decode cX2_seek 67 = .ok (.invokevirtual 46, 3) := by decide +kernel
theorem dX2_seek_70 : decode cX2_seek 70 = .ok (.invokevirtual 50, 3) := by decide +kernel
theorem dX2_seek_73 : decode cX2_seek 73 = .ok (.iinc 3 1, 3) := by decide +kernel
theorem dX2_seek_76 : decode cX2_seek 76 = .ok (.goto (-30), 3) := by decide +kernel
theorem dX2_seek_79 : decode cX2_seek 79 = .ok (.iinc 2 1, 3) := by decide +kernel
theorem dX2_seek_82 : decode cX2_seek 82 = .ok (.goto (-46), 3) := by decide +kernel
theorem dX2_seek_85 : decode cX2_seek 85 = .ok (.aload_n 1, 1) := by decide +kernel
theorem dX2_seek_86 : decode cX2_seek 86 = .ok (.getfield 54, 3) := by decide +kernel
theorem dX2_seek_89 : decode cX2_seek 89 = .ok (.iconst 0, 1) := by decide +kernel
theorem dX2_seek_90 : decode cX2_seek 90 = .ok (.invokevirtual 57, 3) := by decide +kernel
theorem dX2_seek_93 : decode cX2_seek 93 = .ok (.istore_n 2, 1) := by decide +kernel
theorem dX2_seek_94 : decode cX2_seek 94 = .ok (.aload_n 0, 1) := by decide +kernel
theorem dX2_seek_95 : decode cX2_seek 95 = .ok (.getfield 20, 3) := by decide +kernel
theorem dX2_seek_98 : decode cX2_seek 98 = .ok (.iconst 0, 1) := by decide +kernel
theorem dX2_seek_99 : decode cX2_seek 99 = .ok (.iload_n 2, 1) := by decide +kernel
theorem dX2_seek_100 : decode cX2_seek 100 = .ok (.invokevirtual 50, 3) := by decide +kernel
theorem dX2_seek_103 : decode cX2_seek 103 = .ok (.aload_n 1, 1) := by decide +kernel
theorem dX2_seek_104 : decode cX2_seek 104 = .ok (.iload_n 2, 1) := by decide +kernel
theorem dX2_seek_105 : decode cX2_seek 105 = .ok (.invokevirtual 61, 3) := by decide +kernel
theorem dX2_seek_108 : decode cX2_seek 108 = .ok (.ifCond .eq 7, 3) := by decide +kernel
theorem dX2_seek_111 : decode cX2_seek 111 = .ok (.iload_n 2, 1) := by decide +kernel
theorem dX2_seek_112 : decode cX2_seek 112 = .ok (.goto 5, 3) := by decide +kernel
theorem dX2_seek_115 : decode cX2_seek 115 = .ok (.bipush (-9), 2) := by decide +kernel
theorem dX2_seek_117 : decode cX2_seek 117 = .ok (.istore_n 3, 1) := by decide +kernel
theorem dX2_seek_118 : decode cX2_seek 118 = .ok (.aload_n 0, 1) := by decide +kernel
theorem dX2_seek_119 : decode cX2_seek 119 = .ok (.iconst 1, 1) := by decide +kernel
theorem dX2_seek_120 : decode cX2_seek 120 = .ok (.iconst 1, 1) := by decide +kernel
theorem dX2_seek_121 : decode cX2_seek 121 = .ok (.iload_n 2, 1) := by decide +kernel
theorem dX2_seek_122 : decode cX2_seek 122 = .ok (.ishl, 1) := by decide +kernel
theorem dX2_seek_123 : decode cX2_seek 123 = .ok (.iload_n 3, 1) := by decide +kernel
theorem dX2_seek_124 : decode cX2_seek 124 = .ok (.iload_n 3, 1) := by decide +kernel
theorem dX2_seek_125 : decode cX2_seek 125 = .ok (.iconst 0, 1) := by decide +kernel
theorem dX2_seek_126 : decode cX2_seek 126 = .ok (.invokevirtual 65, 3) := by decide +kernel
theorem dX2_seek_129 : decode cX2_seek 129 = .ok (.return_, 1) := by decide +kernel
theorem dX2_placeNext_0 : decode cX2_placeNext 0 = .ok (.iload_n 1, 1) := by decide +kernel
theorem dX2_placeNext_1 : decode cX2_placeNext 1 = .ok (.aload_n 0, 1) := by decide +kernel
theorem dX2_placeNext_2 : decode cX2_placeNext 2 = .ok (.getfield 26, 3) := by decide +kernel
theorem dX2_placeNext_5 : decode cX2_placeNext 5 = .ok (.if_icmp .lt 18, 3) := by decide +kernel
theorem dX2_placeNext_8 : decode cX2_placeNext 8 = .ok (.aload_n 0, 1) := by decide +kernel
theorem dX2_placeNext_9 : decode cX2_placeNext 9 = .ok (.iload 5, 2) := by decide +kernel
theorem dX2_placeNext_11 : decode cX2_placeNext 11 = .ok (.aload_n 0, 1) := by decide +kernel
theorem dX2_placeNext_12 : decode cX2_placeNext 12 = .ok (.iload 4, 2) := by decide +kernel
theorem dX2_placeNext_14 : decode cX2_placeNext 14 = .ok (.iload_n 3, 1) := by decide +kernel
theorem dX2_placeNext_15 : decode cX2_placeNext 15 = .ok (.invokevirtual 69, 3) := by decide +kernel
theorem dX2_placeNext_18 : decode cX2_placeNext 18 = .ok (.iadd, 1) := by decide +kernel
theorem dX2_placeNext_19 : decode cX2_placeNext 19 = .ok (.invokevirtual 72, 3) := by decide +kernel
theorem dX2_placeNext_22 : decode cX2_placeNext 22 = .ok (.return_, 1) := by decide +kernel
theorem dX2_placeNext_23 : decode cX2_placeNext 23 = .ok (.iconst 0, 1) := by decide +kernel
theorem dX2_placeNext_24 : decode cX2_placeNext 24 = .ok (.istore 6, 2) := by decide +kernel
theorem dX2_placeNext_26 : decode cX2_placeNext 26 = .ok (.iload 6, 2) := by decide +kernel
theorem dX2_placeNext_28 : decode cX2_placeNext 28 = .ok (.aload_n 0, 1) := by decide +kernel
theorem dX2_placeNext_29 : decode cX2_placeNext 29 = .ok (.getfield 26, 3) := by decide +kernel
theorem dX2_placeNext_32 : decode cX2_placeNext 32 = .ok (.if_icmp .ge 117, 3) := by decide +kernel
theorem dX2_placeNext_35 : decode cX2_placeNext 35 = .ok (.iload_n 2, 1) := by decide +kernel
theorem dX2_placeNext_36 : decode cX2_placeNext 36 = .ok (.iload 6, 2) := by decide +kernel
theorem dX2_placeNext_38 : decode cX2_placeNext 38 = .ok (.ishr, 1) := by decide +kernel
theorem dX2_placeNext_39 : decode cX2_placeNext 39 = .ok (.iconst 1, 1) := by decide +kernel
theorem dX2_placeNext_40 : decode cX2_placeNext 40 = .ok (.iand, 1) := by decide +kernel
theorem dX2_placeNext_41 : decode cX2_placeNext 41 = .ok (.iconst 1, 1) := by decide +kernel
theorem dX2_placeNext_42 : decode cX2_placeNext 42 = .ok (.if_icmp .ne 6, 3) := by decide +kernel
theorem dX2_placeNext_45 : decode cX2_placeNext 45 = .ok (.goto 98, 3) := by decide +kernel
theorem dX2_placeNext_48 : decode cX2_placeNext 48 = .ok (.aload_n 0, 1) := by decide +kernel
theorem dX2_placeNext_49 : decode cX2_placeNext 49 = .ok (.getfield 20, 3) := by decide +kernel
theorem dX2_placeNext_52 : decode cX2_placeNext 52 = .ok (.iload_n 1, 1) := by decide +kernel
theorem dX2_placeNext_53 : decode cX2_placeNext 53 = .ok (.iload 6, 2) := by decide +kernel
theorem dX2_placeNext_55 : decode cX2_placeNext 55 = .ok (.invokevirtual 50, 3) := by decide +kernel
theorem dX2_placeNext_58 : decode cX2_placeNext 58 = .ok (.iload_n 2, 1) := by decide +kernel
theorem dX2_placeNext_59 : decode cX2_placeNext 59 = .ok (.iconst 1, 1) := by decide +kernel
theorem dX2_placeNext_60 : decode cX2_placeNext 60 = .ok (.iload 6, 2) := by decide +kernel
theorem dX2_placeNext_62 : decode cX2_placeNext 62 = .ok (.ishl, 1) := by decide +kernel
theorem dX2_placeNext_63 : decode cX2_placeNext 63 = .ok (.ior, 1) := by decide +kernel
theorem dX2_placeNext_64 : decode cX2_placeNext 64 = .ok (.istore 7, 2) := by decide +kernel
theorem dX2_placeNext_66 : decode cX2_placeNext 66 = .ok (.aload_n 0, 1) := by decide +kernel
theorem dX2_placeNext_67 : decode cX2_placeNext 67 = .ok (.getfield 30, 3) := by decide +kernel
theorem dX2_placeNext_70 : decode cX2_placeNext 70 = .ok (.iload 6, 2) := by decide +kernel
theorem dX2_placeNext_72 : decode cX2_placeNext 72 = .ok (.ishr, 1) := by decide +kernel
theorem dX2_placeNext_73 : decode cX2_placeNext 73 = .ok (.iconst 1, 1) := by decide +kernel
theorem dX2_placeNext_74 : decode cX2_placeNext 74 = .ok (.iand, 1) := by decide +kernel
theorem dX2_placeNext_75 : decode cX2_placeNext 75 = .ok (.ifCond .ne 20, 3) := by decide +kernel
theorem dX2_placeNext_78 : decode cX2_placeNext 78 = .ok (.aload_n 0, 1) := by decide +kernel
theorem dX2_placeNext_79 : decode cX2_placeNext 79 = .ok (.iload_n 1, 1) := by decide +kernel
theorem dX2_placeNext_80 : decode cX2_placeNext 80 = .ok (.iconst 1, 1) := by decide +kernel
theorem dX2_placeNext_81 : decode cX2_placeNext 81 = .ok (.iadd, 1) := by decide +kernel
theorem dX2_placeNext_82 : decode cX2_placeNext 82 = .ok (.iload 7, 2) := by decide +kernel
theorem dX2_placeNext_84 : decode cX2_placeNext 84 = .ok (.iload_n 3, 1) := by decide +kernel
theorem dX2_placeNext_85 : decode cX2_placeNext 85 = .ok (.iload 4, 2) := by decide +kernel
theorem dX2_placeNext_87 : decode cX2_placeNext 87 = .ok (.iload 5, 2) := by decide +kernel
theorem dX2_placeNext_89 : decode cX2_placeNext 89 = .ok (.invokevirtual 65, 3) := by decide +kernel
theorem dX2_placeNext_92 : decode cX2_placeNext 92 = .ok (.goto 51, 3) := by decide +kernel
theorem dX2_placeNext_95 : decode cX2_placeNext 95 = .ok (.iload 4, 2) := by decide +kernel
theorem dX2_placeNext_97 : decode cX2_placeNext 97 = .ok (.bipush (-9), 2) := by decide +kernel
theorem dX2_placeNext_99 : decode cX2_placeNext 99 = .ok (.if_icmp .ne 21, 3) := by decide +kernel
theorem dX2_placeNext_102 : decode cX2_placeNext 102 = .ok (.aload_n 0, 1) := by decide +kernel
theorem dX2_placeNext_103 : decode cX2_placeNext 103 = .ok (.iload_n 1, 1) := by decide +kernel
theorem dX2_placeNext_104 : decode cX2_placeNext 104 = .ok (.iconst 1, 1) := by decide +kernel
theorem dX2_placeNext_105 : decode cX2_placeNext 105 = .ok (.iadd, 1) := by decide +kernel
theorem dX2_placeNext_106 : decode cX2_placeNext 106 = .ok (.iload 7, 2) := by decide +kernel
theorem dX2_placeNext_108 : decode cX2_placeNext 108 = .ok (.iload 6, 2) := by decide +kernel
theorem dX2_placeNext_110 : decode cX2_placeNext 110 = .ok (.iload 6, 2) := by decide +kernel
theorem dX2_placeNext_112 : decode cX2_placeNext 112 = .ok (.iload 5, 2) := by decide +kernel
theorem dX2_placeNext_114 : decode cX2_placeNext 114 = .ok (.invokevirtual 65, 3) := by decide +kernel
theorem dX2_placeNext_117 : decode cX2_placeNext 117 = .ok (.goto 26, 3) := by decide +kernel
theorem dX2_placeNext_120 : decode cX2_placeNext 120 = .ok (.aload_n 0, 1) := by decide +kernel
theorem dX2_placeNext_121 : decode cX2_placeNext 121 = .ok (.iload_n 1, 1) := by decide +kernel
theorem dX2_placeNext_122 : decode cX2_placeNext 122 = .ok (.iconst 1, 1) := by decide +kernel
theorem dX2_placeNext_123 : decode cX2_placeNext 123 = .ok (.iadd, 1) := by decide +kernel
theorem dX2_placeNext_124 : decode cX2_placeNext 124 = .ok (.iload 7, 2) := by decide +kernel
theorem dX2_placeNext_126 : decode cX2_placeNext 126 = .ok (.iload_n 3, 1) := by decide +kernel
theorem dX2_placeNext_127 : decode cX2_placeNext 127 = .ok (.iload 6, 2) := by decide +kernel
theorem dX2_placeNext_129 : decode cX2_placeNext 129 = .ok (.iload 5, 2) := by decide +kernel
theorem dX2_placeNext_131 : decode cX2_placeNext 131 = .ok (.aload_n 0, 1) := by decide +kernel
theorem dX2_placeNext_132 : decode cX2_placeNext 132 = .ok (.iload 4, 2) := by decide +kernel
theorem dX2_placeNext_134 : decode cX2_placeNext 134 = .ok (.iload 6, 2) := by decide +kernel
theorem dX2_placeNext_136 : decode cX2_placeNext 136 = .ok (.invokevirtual 69, 3) := by decide +kernel
theorem dX2_placeNext_139 : decode cX2_placeNext 139 = .ok (.iadd, 1) := by decide +kernel
theorem dX2_placeNext_140 : decode cX2_placeNext 140 = .ok (.invokevirtual 65, 3) := by decide +kernel
theorem dX2_placeNext_143 : decode cX2_placeNext 143 = .ok (.iinc 6 1, 3) := by decide +kernel
theorem dX2_placeNext_146 : decode cX2_placeNext 146 = .ok (.goto (-120), 3) := by decide +kernel
theorem dX2_placeNext_149 : decode cX2_placeNext 149 = .ok (.return_, 1) := by decide +kernel
theorem dX2_worthEnded_0 : decode cX2_worthEnded 0 = .ok (.iload_n 1, 1) := by decide +kernel
theorem dX2_worthEnded_1 : decode cX2_worthEnded 1 = .ok (.iload_n 2, 1) := by decide +kernel
theorem dX2_worthEnded_2 : decode cX2_worthEnded 2 = .ok (.if_icmp .ne 7, 3) := by decide +kernel
theorem dX2_worthEnded_5 : decode cX2_worthEnded 5 = .ok (.iconst 0, 1) := by decide +kernel
theorem dX2_worthEnded_6 : decode cX2_worthEnded 6 = .ok (.goto 16, 3) := by decide +kernel
theorem dX2_worthEnded_9 : decode cX2_worthEnded 9 = .ok (.aload_n 0, 1) := by decide +kernel
theorem dX2_worthEnded_10 : decode cX2_worthEnded 10 = .ok (.getfield 14, 3) := by decide +kernel
theorem dX2_worthEnded_13 : decode cX2_worthEnded 13 = .ok (.bipush 7, 2) := by decide +kernel
theorem dX2_worthEnded_15 : decode cX2_worthEnded 15 = .ok (.iload_n 1, 1) := by decide +kernel
theorem dX2_worthEnded_16 : decode cX2_worthEnded 16 = .ok (.imul, 1) := by decide +kernel
theorem dX2_worthEnded_17 : decode cX2_worthEnded 17 = .ok (.iload_n 2, 1) := by decide +kernel
theorem dX2_worthEnded_18 : decode cX2_worthEnded 18 = .ok (.iadd, 1) := by decide +kernel
theorem dX2_worthEnded_19 : decode cX2_worthEnded 19 = .ok (.invokevirtual 57, 3) := by decide +kernel
theorem dX2_worthEnded_22 : decode cX2_worthEnded 22 = .ok (.ireturn, 1) := by decide +kernel
theorem dX2_keepIfBetter_0 : decode cX2_keepIfBetter 0 = .ok (.aload_n 0, 1) := by decide +kernel
theorem dX2_keepIfBetter_1 : decode cX2_keepIfBetter 1 = .ok (.getfield 33, 3) := by decide +kernel
theorem dX2_keepIfBetter_4 : decode cX2_keepIfBetter 4 = .ok (.ifCond .eq 11, 3) := by decide +kernel
theorem dX2_keepIfBetter_7 : decode cX2_keepIfBetter 7 = .ok (.iload_n 1, 1) := by decide +kernel
theorem dX2_keepIfBetter_8 : decode cX2_keepIfBetter 8 = .ok (.aload_n 0, 1) := by decide +kernel
theorem dX2_keepIfBetter_9 : decode cX2_keepIfBetter 9 = .ok (.getfield 37, 3) := by decide +kernel
theorem dX2_keepIfBetter_12 : decode cX2_keepIfBetter 12 = .ok (.if_icmp .le 24, 3) := by decide +kernel
theorem dX2_keepIfBetter_15 : decode cX2_keepIfBetter 15 = .ok (.aload_n 0, 1) := by decide +kernel
theorem dX2_keepIfBetter_16 : decode cX2_keepIfBetter 16 = .ok (.iconst 1, 1) := by decide +kernel
theorem dX2_keepIfBetter_17 : decode cX2_keepIfBetter 17 = .ok (.putfield 33, 3) := by decide +kernel
theorem dX2_keepIfBetter_20 : decode cX2_keepIfBetter 20 = .ok (.aload_n 0, 1) := by decide +kernel
theorem dX2_keepIfBetter_21 : decode cX2_keepIfBetter 21 = .ok (.iload_n 1, 1) := by decide +kernel
theorem dX2_keepIfBetter_22 : decode cX2_keepIfBetter 22 = .ok (.putfield 37, 3) := by decide +kernel
theorem dX2_keepIfBetter_25 : decode cX2_keepIfBetter 25 = .ok (.aload_n 0, 1) := by decide +kernel
theorem dX2_keepIfBetter_26 : decode cX2_keepIfBetter 26 = .ok (.getfield 23, 3) := by decide +kernel
theorem dX2_keepIfBetter_29 : decode cX2_keepIfBetter 29 = .ok (.aload_n 0, 1) := by decide +kernel
theorem dX2_keepIfBetter_30 : decode cX2_keepIfBetter 30 = .ok (.getfield 20, 3) := by decide +kernel
theorem dX2_keepIfBetter_33 : decode cX2_keepIfBetter 33 = .ok (.invokevirtual 75, 3) := by decide +kernel
theorem dX2_keepIfBetter_36 : decode cX2_keepIfBetter 36 = .ok (.return_, 1) := by decide +kernel
theorem dJ11_isValidCodePoint_9a6ad_0 : decode cJ11_isValidCodePoint_9a6ad 0 = .ok (.iload_n 0, 1) := by decide +kernel
theorem dJ11_isValidCodePoint_9a6ad_1 : decode cJ11_isValidCodePoint_9a6ad 1 = .ok (.bipush 16, 2) := by decide +kernel
theorem dJ11_isValidCodePoint_9a6ad_3 : decode cJ11_isValidCodePoint_9a6ad 3 = .ok (.iushr, 1) := by decide +kernel
theorem dJ11_isValidCodePoint_9a6ad_4 : decode cJ11_isValidCodePoint_9a6ad 4 = .ok (.istore_n 1, 1) := by decide +kernel
theorem dJ11_isValidCodePoint_9a6ad_5 : decode cJ11_isValidCodePoint_9a6ad 5 = .ok (.iload_n 1, 1) := by decide +kernel
theorem dJ11_isValidCodePoint_9a6ad_6 : decode cJ11_isValidCodePoint_9a6ad 6 = .ok (.bipush 17, 2) := by decide +kernel
theorem dJ11_isValidCodePoint_9a6ad_8 : decode cJ11_isValidCodePoint_9a6ad 8 = .ok (.if_icmp .ge 7, 3) := by decide +kernel
theorem dJ11_isValidCodePoint_9a6ad_11 : decode cJ11_isValidCodePoint_9a6ad 11 = .ok (.iconst 1, 1) := by decide +kernel
theorem dJ11_isValidCodePoint_9a6ad_12 : decode cJ11_isValidCodePoint_9a6ad 12 = .ok (.goto 4, 3) := by decide +kernel
theorem dJ11_isValidCodePoint_9a6ad_15 : decode cJ11_isValidCodePoint_9a6ad 15 = .ok (.iconst 0, 1) := by decide +kernel
theorem dJ11_isValidCodePoint_9a6ad_16 : decode cJ11_isValidCodePoint_9a6ad 16 = .ok (.ireturn, 1) := by decide +kernel
theorem dJ11_highSurrogate_5068e_0 : decode cJ11_highSurrogate_5068e 0 = .ok (.iload_n 0, 1) := by decide +kernel
theorem dJ11_highSurrogate_5068e_1 : decode cJ11_highSurrogate_5068e 1 = .ok (.bipush 10, 2) := by decide +kernel
theorem dJ11_highSurrogate_5068e_3 : decode cJ11_highSurrogate_5068e 3 = .ok (.iushr, 1) := by decide +kernel
theorem dJ11_highSurrogate_5068e_4 : decode cJ11_highSurrogate_5068e 4 = .ok (.ldc 110, 2) := by decide +kernel
theorem dJ11_highSurrogate_5068e_6 : decode cJ11_highSurrogate_5068e 6 = .ok (.iadd, 1) := by decide +kernel
theorem dJ11_highSurrogate_5068e_7 : decode cJ11_highSurrogate_5068e 7 = .ok (.i2c, 1) := by decide +kernel
theorem dJ11_highSurrogate_5068e_8 : decode cJ11_highSurrogate_5068e 8 = .ok (.ireturn, 1) := by decide +kernel
theorem dJ11_lowSurrogate_5068e_0 : decode cJ11_lowSurrogate_5068e 0 = .ok (.iload_n 0, 1) := by decide +kernel
theorem dJ11_lowSurrogate_5068e_1 : decode cJ11_lowSurrogate_5068e 1 = .ok (.sipush 1023, 3) := by decide +kernel
theorem dJ11_lowSurrogate_5068e_4 : decode cJ11_lowSurrogate_5068e 4 = .ok (.iand, 1) := by decide +kernel
theorem dJ11_lowSurrogate_5068e_5 : decode cJ11_lowSurrogate_5068e 5 = .ok (.ldc 76, 2) := by decide +kernel
theorem dJ11_lowSurrogate_5068e_7 : decode cJ11_lowSurrogate_5068e 7 = .ok (.iadd, 1) := by decide +kernel
theorem dJ11_lowSurrogate_5068e_8 : decode cJ11_lowSurrogate_5068e 8 = .ok (.i2c, 1) := by decide +kernel
theorem dJ11_lowSurrogate_5068e_9 : decode cJ11_lowSurrogate_5068e 9 = .ok (.ireturn, 1) := by decide +kernel
theorem dJ6_bitCount_0f7a4_0 : decode cJ6_bitCount_0f7a4 0 = .ok (.iload_n 0, 1) := by decide +kernel
theorem dJ6_bitCount_0f7a4_1 : decode cJ6_bitCount_0f7a4 1 = .ok (.iload_n 0, 1) := by decide +kernel
theorem dJ6_bitCount_0f7a4_2 : decode cJ6_bitCount_0f7a4 2 = .ok (.iconst 1, 1) := by decide +kernel
theorem dJ6_bitCount_0f7a4_3 : decode cJ6_bitCount_0f7a4 3 = .ok (.iushr, 1) := by decide +kernel
theorem dJ6_bitCount_0f7a4_4 : decode cJ6_bitCount_0f7a4 4 = .ok (.ldc_w 265, 3) := by decide +kernel
theorem dJ6_bitCount_0f7a4_7 : decode cJ6_bitCount_0f7a4 7 = .ok (.iand, 1) := by decide +kernel
theorem dJ6_bitCount_0f7a4_8 : decode cJ6_bitCount_0f7a4 8 = .ok (.isub, 1) := by decide +kernel
theorem dJ6_bitCount_0f7a4_9 : decode cJ6_bitCount_0f7a4 9 = .ok (.istore_n 0, 1) := by decide +kernel
theorem dJ6_bitCount_0f7a4_10 : decode cJ6_bitCount_0f7a4 10 = .ok (.iload_n 0, 1) := by decide +kernel
theorem dJ6_bitCount_0f7a4_11 : decode cJ6_bitCount_0f7a4 11 = .ok (.ldc_w 266, 3) := by decide +kernel
theorem dJ6_bitCount_0f7a4_14 : decode cJ6_bitCount_0f7a4 14 = .ok (.iand, 1) := by decide +kernel
theorem dJ6_bitCount_0f7a4_15 : decode cJ6_bitCount_0f7a4 15 = .ok (.iload_n 0, 1) := by decide +kernel
theorem dJ6_bitCount_0f7a4_16 : decode cJ6_bitCount_0f7a4 16 = .ok (.iconst 2, 1) := by decide +kernel
theorem dJ6_bitCount_0f7a4_17 : decode cJ6_bitCount_0f7a4 17 = .ok (.iushr, 1) := by decide +kernel
theorem dJ6_bitCount_0f7a4_18 : decode cJ6_bitCount_0f7a4 18 = .ok (.ldc_w 266, 3) := by decide +kernel
theorem dJ6_bitCount_0f7a4_21 : decode cJ6_bitCount_0f7a4 21 = .ok (.iand, 1) := by decide +kernel
theorem dJ6_bitCount_0f7a4_22 : decode cJ6_bitCount_0f7a4 22 = .ok (.iadd, 1) := by decide +kernel
theorem dJ6_bitCount_0f7a4_23 : decode cJ6_bitCount_0f7a4 23 = .ok (.istore_n 0, 1) := by decide +kernel
theorem dJ6_bitCount_0f7a4_24 : decode cJ6_bitCount_0f7a4 24 = .ok (.iload_n 0, 1) := by decide +kernel
theorem dJ6_bitCount_0f7a4_25 : decode cJ6_bitCount_0f7a4 25 = .ok (.iload_n 0, 1) := by decide +kernel
theorem dJ6_bitCount_0f7a4_26 : decode cJ6_bitCount_0f7a4 26 = .ok (.iconst 4, 1) := by decide +kernel
theorem dJ6_bitCount_0f7a4_27 : decode cJ6_bitCount_0f7a4 27 = .ok (.iushr, 1) := by decide +kernel
theorem dJ6_bitCount_0f7a4_28 : decode cJ6_bitCount_0f7a4 28 = .ok (.iadd, 1) := by decide +kernel
theorem dJ6_bitCount_0f7a4_29 : decode cJ6_bitCount_0f7a4 29 = .ok (.ldc_w 267, 3) := by decide +kernel
theorem dJ6_bitCount_0f7a4_32 : decode cJ6_bitCount_0f7a4 32 = .ok (.iand, 1) := by decide +kernel
theorem dJ6_bitCount_0f7a4_33 : decode cJ6_bitCount_0f7a4 33 = .ok (.istore_n 0, 1) := by decide +kernel
theorem dJ6_bitCount_0f7a4_34 : decode cJ6_bitCount_0f7a4 34 = .ok (.iload_n 0, 1) := by decide +kernel
theorem dJ6_bitCount_0f7a4_35 : decode cJ6_bitCount_0f7a4 35 = .ok (.iload_n 0, 1) := by decide +kernel
theorem dJ6_bitCount_0f7a4_36 : decode cJ6_bitCount_0f7a4 36 = .ok (.bipush 8, 2) := by decide +kernel
theorem dJ6_bitCount_0f7a4_38 : decode cJ6_bitCount_0f7a4 38 = .ok (.iushr, 1) := by decide +kernel
theorem dJ6_bitCount_0f7a4_39 : decode cJ6_bitCount_0f7a4 39 = .ok (.iadd, 1) := by decide +kernel
theorem dJ6_bitCount_0f7a4_40 : decode cJ6_bitCount_0f7a4 40 = .ok (.istore_n 0, 1) := by decide +kernel
theorem dJ6_bitCount_0f7a4_41 : decode cJ6_bitCount_0f7a4 41 = .ok (.iload_n 0, 1) := by decide +kernel
theorem dJ6_bitCount_0f7a4_42 : decode cJ6_bitCount_0f7a4 42 = .ok (.iload_n 0, 1) := by decide +kernel
theorem dJ6_bitCount_0f7a4_43 : decode cJ6_bitCount_0f7a4 43 = .ok (.bipush 16, 2) := by decide +kernel
theorem dJ6_bitCount_0f7a4_45 : decode cJ6_bitCount_0f7a4 45 = .ok (.iushr, 1) := by decide +kernel
theorem dJ6_bitCount_0f7a4_46 : decode cJ6_bitCount_0f7a4 46 = .ok (.iadd, 1) := by decide +kernel
theorem dJ6_bitCount_0f7a4_47 : decode cJ6_bitCount_0f7a4 47 = .ok (.istore_n 0, 1) := by decide +kernel
theorem dJ6_bitCount_0f7a4_48 : decode cJ6_bitCount_0f7a4 48 = .ok (.iload_n 0, 1) := by decide +kernel
theorem dJ6_bitCount_0f7a4_49 : decode cJ6_bitCount_0f7a4 49 = .ok (.bipush 63, 2) := by decide +kernel
theorem dJ6_bitCount_0f7a4_51 : decode cJ6_bitCount_0f7a4 51 = .ok (.iand, 1) := by decide +kernel
theorem dJ6_bitCount_0f7a4_52 : decode cJ6_bitCount_0f7a4 52 = .ok (.ireturn, 1) := by decide +kernel
theorem dJ9_max_7cf53_0 : decode cJ9_max_7cf53 0 = .ok (.iload_n 0, 1) := by decide +kernel
theorem dJ9_max_7cf53_1 : decode cJ9_max_7cf53 1 = .ok (.iload_n 1, 1) := by decide +kernel
theorem dJ9_max_7cf53_2 : decode cJ9_max_7cf53 2 = .ok (.if_icmp .lt 7, 3) := by decide +kernel
theorem dJ9_max_7cf53_5 : decode cJ9_max_7cf53 5 = .ok (.iload_n 0, 1) := by decide +kernel
theorem dJ9_max_7cf53_6 : decode cJ9_max_7cf53 6 = .ok (.goto 4, 3) := by decide +kernel
theorem dJ9_max_7cf53_9 : decode cJ9_max_7cf53 9 = .ok (.iload_n 1, 1) := by decide +kernel
theorem dJ9_max_7cf53_10 : decode cJ9_max_7cf53 10 = .ok (.ireturn, 1) := by decide +kernel
theorem dJ9_min_7cf53_0 : decode cJ9_min_7cf53 0 = .ok (.iload_n 0, 1) := by decide +kernel
theorem dJ9_min_7cf53_1 : decode cJ9_min_7cf53 1 = .ok (.iload_n 1, 1) := by decide +kernel
theorem dJ9_min_7cf53_2 : decode cJ9_min_7cf53 2 = .ok (.if_icmp .gt 7, 3) := by decide +kernel
theorem dJ9_min_7cf53_5 : decode cJ9_min_7cf53 5 = .ok (.iload_n 0, 1) := by decide +kernel
theorem dJ9_min_7cf53_6 : decode cJ9_min_7cf53 6 = .ok (.goto 4, 3) := by decide +kernel
theorem dJ9_min_7cf53_9 : decode cJ9_min_7cf53 9 = .ok (.iload_n 1, 1) := by decide +kernel
theorem dJ9_min_7cf53_10 : decode cJ9_min_7cf53 10 = .ok (.ireturn, 1) := by decide +kernel
theorem dJ0_length_8abf5_0 : decode cJ0_length_8abf5 0 = .ok (.aload_n 0, 1) := by decide +kernel
theorem dJ0_length_8abf5_1 : decode cJ0_length_8abf5 1 = .ok (.getfield 9, 3) := by decide +kernel
theorem dJ0_length_8abf5_4 : decode cJ0_length_8abf5 4 = .ok (.arraylength, 1) := by decide +kernel
theorem dJ0_length_8abf5_5 : decode cJ0_length_8abf5 5 = .ok (.aload_n 0, 1) := by decide +kernel
theorem dJ0_length_8abf5_6 : decode cJ0_length_8abf5 6 = .ok (.invokevirtual 335, 3) := by decide +kernel
theorem dJ0_length_8abf5_9 : decode cJ0_length_8abf5 9 = .ok (.ishr, 1) := by decide +kernel
theorem dJ0_length_8abf5_10 : decode cJ0_length_8abf5 10 = .ok (.ireturn, 1) := by decide +kernel
theorem dJ0_isEmpty_aae02_0 : decode cJ0_isEmpty_aae02 0 = .ok (.aload_n 0, 1) := by decide +kernel
theorem dJ0_isEmpty_aae02_1 : decode cJ0_isEmpty_aae02 1 = .ok (.getfield 9, 3) := by decide +kernel
theorem dJ0_isEmpty_aae02_4 : decode cJ0_isEmpty_aae02 4 = .ok (.arraylength, 1) := by decide +kernel
theorem dJ0_isEmpty_aae02_5 : decode cJ0_isEmpty_aae02 5 = .ok (.ifCond .ne 7, 3) := by decide +kernel
theorem dJ0_isEmpty_aae02_8 : decode cJ0_isEmpty_aae02 8 = .ok (.iconst 1, 1) := by decide +kernel
theorem dJ0_isEmpty_aae02_9 : decode cJ0_isEmpty_aae02 9 = .ok (.goto 4, 3) := by decide +kernel
theorem dJ0_isEmpty_aae02_12 : decode cJ0_isEmpty_aae02 12 = .ok (.iconst 0, 1) := by decide +kernel
theorem dJ0_isEmpty_aae02_13 : decode cJ0_isEmpty_aae02 13 = .ok (.ireturn, 1) := by decide +kernel
theorem dJ0_charAt_5068e_0 : decode cJ0_charAt_5068e 0 = .ok (.aload_n 0, 1) := by decide +kernel
theorem dJ0_charAt_5068e_1 : decode cJ0_charAt_5068e 1 = .ok (.invokevirtual 492, 3) := by decide +kernel
theorem dJ0_charAt_5068e_4 : decode cJ0_charAt_5068e 4 = .ok (.ifCond .eq 12, 3) := by decide +kernel
theorem dJ0_charAt_5068e_7 : decode cJ0_charAt_5068e 7 = .ok (.aload_n 0, 1) := by decide +kernel
theorem dJ0_charAt_5068e_8 : decode cJ0_charAt_5068e 8 = .ok (.getfield 9, 3) := by decide +kernel
theorem dJ0_charAt_5068e_11 : decode cJ0_charAt_5068e 11 = .ok (.iload_n 1, 1) := by decide +kernel
theorem dJ0_charAt_5068e_12 : decode cJ0_charAt_5068e 12 = .ok (.invokestatic 495, 3) := by decide +kernel
theorem dJ0_charAt_5068e_15 : decode cJ0_charAt_5068e 15 = .ok (.ireturn, 1) := by decide +kernel
theorem dJ0_charAt_5068e_16 : decode cJ0_charAt_5068e 16 = .ok (.aload_n 0, 1) := by decide +kernel
theorem dJ0_charAt_5068e_17 : decode cJ0_charAt_5068e 17 = .ok (.getfield 9, 3) := by decide +kernel
theorem dJ0_charAt_5068e_20 : decode cJ0_charAt_5068e 20 = .ok (.iload_n 1, 1) := by decide +kernel
theorem dJ0_charAt_5068e_21 : decode cJ0_charAt_5068e 21 = .ok (.invokestatic 498, 3) := by decide +kernel
theorem dJ0_charAt_5068e_24 : decode cJ0_charAt_5068e 24 = .ok (.ireturn, 1) := by decide +kernel
theorem dJ0_indexOf_0f7a4_0 : decode cJ0_indexOf_0f7a4 0 = .ok (.aload_n 0, 1) := by decide +kernel
theorem dJ0_indexOf_0f7a4_1 : decode cJ0_indexOf_0f7a4 1 = .ok (.iload_n 1, 1) := by decide +kernel
theorem dJ0_indexOf_0f7a4_2 : decode cJ0_indexOf_0f7a4 2 = .ok (.iconst 0, 1) := by decide +kernel
theorem dJ0_indexOf_0f7a4_3 : decode cJ0_indexOf_0f7a4 3 = .ok (.invokevirtual 633, 3) := by decide +kernel
theorem dJ0_indexOf_0f7a4_6 : decode cJ0_indexOf_0f7a4 6 = .ok (.ireturn, 1) := by decide +kernel
theorem dJ0_indexOf_7cf53_0 : decode cJ0_indexOf_7cf53 0 = .ok (.aload_n 0, 1) := by decide +kernel
theorem dJ0_indexOf_7cf53_1 : decode cJ0_indexOf_7cf53 1 = .ok (.invokevirtual 492, 3) := by decide +kernel
theorem dJ0_indexOf_7cf53_4 : decode cJ0_indexOf_7cf53 4 = .ok (.ifCond .eq 19, 3) := by decide +kernel
theorem dJ0_indexOf_7cf53_7 : decode cJ0_indexOf_7cf53 7 = .ok (.aload_n 0, 1) := by decide +kernel
theorem dJ0_indexOf_7cf53_8 : decode cJ0_indexOf_7cf53 8 = .ok (.getfield 9, 3) := by decide +kernel
theorem dJ0_indexOf_7cf53_11 : decode cJ0_indexOf_7cf53 11 = .ok (.iload_n 1, 1) := by decide +kernel
theorem dJ0_indexOf_7cf53_12 : decode cJ0_indexOf_7cf53 12 = .ok (.iload_n 2, 1) := by decide +kernel
theorem dJ0_indexOf_7cf53_13 : decode cJ0_indexOf_7cf53 13 = .ok (.aload_n 0, 1) := by decide +kernel
theorem dJ0_indexOf_7cf53_14 : decode cJ0_indexOf_7cf53 14 = .ok (.invokevirtual 505, 3) := by decide +kernel
theorem dJ0_indexOf_7cf53_17 : decode cJ0_indexOf_7cf53 17 = .ok (.invokestatic 637, 3) := by decide +kernel
theorem dJ0_indexOf_7cf53_20 : decode cJ0_indexOf_7cf53 20 = .ok (.goto 16, 3) := by decide +kernel
theorem dJ0_indexOf_7cf53_23 : decode cJ0_indexOf_7cf53 23 = .ok (.aload_n 0, 1) := by decide +kernel
theorem dJ0_indexOf_7cf53_24 : decode cJ0_indexOf_7cf53 24 = .ok (.getfield 9, 3) := by decide +kernel
theorem dJ0_indexOf_7cf53_27 : decode cJ0_indexOf_7cf53 27 = .ok (.iload_n 1, 1) := by decide +kernel
theorem dJ0_indexOf_7cf53_28 : decode cJ0_indexOf_7cf53 28 = .ok (.iload_n 2, 1) := by decide +kernel
theorem dJ0_indexOf_7cf53_29 : decode cJ0_indexOf_7cf53 29 = .ok (.aload_n 0, 1) := by decide +kernel
theorem dJ0_indexOf_7cf53_30 : decode cJ0_indexOf_7cf53 30 = .ok (.invokevirtual 505, 3) := by decide +kernel
theorem dJ0_indexOf_7cf53_33 : decode cJ0_indexOf_7cf53 33 = .ok (.invokestatic 640, 3) := by decide +kernel
theorem dJ0_indexOf_7cf53_36 : decode cJ0_indexOf_7cf53 36 = .ok (.ireturn, 1) := by decide +kernel
theorem dJ0_coder_7d493_0 : decode cJ0_coder_7d493 0 = .ok (.getstatic 38, 3) := by decide +kernel
theorem dJ0_coder_7d493_3 : decode cJ0_coder_7d493 3 = .ok (.ifCond .eq 10, 3) := by decide +kernel
theorem dJ0_coder_7d493_6 : decode cJ0_coder_7d493 6 = .ok (.aload_n 0, 1) := by decide +kernel
theorem dJ0_coder_7d493_7 : decode cJ0_coder_7d493 7 = .ok (.getfield 15, 3) := by decide +kernel
theorem dJ0_coder_7d493_10 : decode cJ0_coder_7d493 10 = .ok (.goto 4, 3) := by decide +kernel
theorem dJ0_coder_7d493_13 : decode cJ0_coder_7d493 13 = .ok (.iconst 1, 1) := by decide +kernel
theorem dJ0_coder_7d493_14 : decode cJ0_coder_7d493 14 = .ok (.ireturn, 1) := by decide +kernel
theorem dJ0_isLatin1_aae02_0 : decode cJ0_isLatin1_aae02 0 = .ok (.getstatic 38, 3) := by decide +kernel
theorem dJ0_isLatin1_aae02_3 : decode cJ0_isLatin1_aae02 3 = .ok (.ifCond .eq 14, 3) := by decide +kernel
theorem dJ0_isLatin1_aae02_6 : decode cJ0_isLatin1_aae02 6 = .ok (.aload_n 0, 1) := by decide +kernel
theorem dJ0_isLatin1_aae02_7 : decode cJ0_isLatin1_aae02 7 = .ok (.getfield 15, 3) := by decide +kernel
theorem dJ0_isLatin1_aae02_10 : decode cJ0_isLatin1_aae02 10 = .ok (.ifCond .ne 7, 3) := by decide +kernel
theorem dJ0_isLatin1_aae02_13 : decode cJ0_isLatin1_aae02 13 = .ok (.iconst 1, 1) := by decide +kernel
theorem dJ0_isLatin1_aae02_14 : decode cJ0_isLatin1_aae02 14 = .ok (.goto 4, 3) := by decide +kernel
theorem dJ0_isLatin1_aae02_17 : decode cJ0_isLatin1_aae02 17 = .ok (.iconst 0, 1) := by decide +kernel
theorem dJ0_isLatin1_aae02_18 : decode cJ0_isLatin1_aae02 18 = .ok (.ireturn, 1) := by decide +kernel
theorem dJ0_checkIndex_df160_0 : decode cJ0_checkIndex_df160 0 = .ok (.iload_n 0, 1) := by decide +kernel
theorem dJ0_checkIndex_df160_1 : decode cJ0_checkIndex_df160 1 = .ok (.iload_n 1, 1) := by decide +kernel
theorem dJ0_checkIndex_df160_2 : decode cJ0_checkIndex_df160 2 = .ok (.getstatic 1053, 3) := by decide +kernel
theorem dJ0_checkIndex_df160_5 : decode cJ0_checkIndex_df160 5 = .ok (.invokestatic 1059, 3) := by decide +kernel
theorem dJ0_checkIndex_df160_8 : decode cJ0_checkIndex_df160 8 = .ok (.pop, 1) := by decide +kernel
theorem dJ0_checkIndex_df160_9 : decode cJ0_checkIndex_df160 9 = .ok (.return_, 1) := by decide +kernel
theorem dJ0_checkBoundsBeginEnd_23922_0 : decode cJ0_checkBoundsBeginEnd_23922 0 = .ok (.iload_n 0, 1) := by decide +kernel
theorem dJ0_checkBoundsBeginEnd_23922_1 : decode cJ0_checkBoundsBeginEnd_23922 1 = .ok (.iload_n 1, 1) := by decide +kernel
theorem dJ0_checkBoundsBeginEnd_23922_2 : decode cJ0_checkBoundsBeginEnd_23922 2 = .ok (.iload_n 2, 1) := by decide +kernel
theorem dJ0_checkBoundsBeginEnd_23922_3 : decode cJ0_checkBoundsBeginEnd_23922 3 = .ok (.getstatic 1053, 3) := by decide +kernel
theorem dJ0_checkBoundsBeginEnd_23922_6 : decode cJ0_checkBoundsBeginEnd_23922 6 = .ok (.invokestatic 1062, 3) := by decide +kernel
theorem dJ0_checkBoundsBeginEnd_23922_9 : decode cJ0_checkBoundsBeginEnd_23922 9 = .ok (.pop, 1) := by decide +kernel
theorem dJ0_checkBoundsBeginEnd_23922_10 : decode cJ0_checkBoundsBeginEnd_23922 10 = .ok (.return_, 1) := by decide +kernel
theorem dJ1_charAt_3b067_0 : decode cJ1_charAt_3b067 0 = .ok (.iload_n 1, 1) := by decide +kernel
theorem dJ1_charAt_3b067_1 : decode cJ1_charAt_3b067 1 = .ok (.aload_n 0, 1) := by decide +kernel
theorem dJ1_charAt_3b067_2 : decode cJ1_charAt_3b067 2 = .ok (.arraylength, 1) := by decide +kernel
theorem dJ1_charAt_3b067_3 : decode cJ1_charAt_3b067 3 = .ok (.invokestatic 9, 3) := by decide +kernel
theorem dJ1_charAt_3b067_6 : decode cJ1_charAt_3b067 6 = .ok (.aload_n 0, 1) := by decide +kernel
theorem dJ1_charAt_3b067_7 : decode cJ1_charAt_3b067 7 = .ok (.iload_n 1, 1) := by decide +kernel
theorem dJ1_charAt_3b067_8 : decode cJ1_charAt_3b067 8 = .ok (.baload, 1) := by decide +kernel
theorem dJ1_charAt_3b067_9 : decode cJ1_charAt_3b067 9 = .ok (.sipush 255, 3) := by decide +kernel
theorem dJ1_charAt_3b067_12 : decode cJ1_charAt_3b067 12 = .ok (.iand, 1) := by decide +kernel
theorem dJ1_charAt_3b067_13 : decode cJ1_charAt_3b067 13 = .ok (.i2c, 1) := by decide +kernel
theorem dJ1_charAt_3b067_14 : decode cJ1_charAt_3b067 14 = .ok (.ireturn, 1) := by decide +kernel
theorem dJ1_canEncode_9a6ad_0 : decode cJ1_canEncode_9a6ad 0 = .ok (.iload_n 0, 1) := by decide +kernel
theorem dJ1_canEncode_9a6ad_1 : decode cJ1_canEncode_9a6ad 1 = .ok (.ifCond .lt 14, 3) := by decide +kernel
theorem dJ1_canEncode_9a6ad_4 : decode cJ1_canEncode_9a6ad 4 = .ok (.iload_n 0, 1) := by decide +kernel
theorem dJ1_canEncode_9a6ad_5 : decode cJ1_canEncode_9a6ad 5 = .ok (.sipush 255, 3) := by decide +kernel
theorem dJ1_canEncode_9a6ad_8 : decode cJ1_canEncode_9a6ad 8 = .ok (.if_icmp .gt 7, 3) := by decide +kernel
theorem dJ1_canEncode_9a6ad_11 : decode cJ1_canEncode_9a6ad 11 = .ok (.iconst 1, 1) := by decide +kernel
theorem dJ1_canEncode_9a6ad_12 : decode cJ1_canEncode_9a6ad 12 = .ok (.goto 4, 3) := by decide +kernel
theorem dJ1_canEncode_9a6ad_15 : decode cJ1_canEncode_9a6ad 15 = .ok (.iconst 0, 1) := by decide +kernel
theorem dJ1_canEncode_9a6ad_16 : decode cJ1_canEncode_9a6ad 16 = .ok (.ireturn, 1) := by decide +kernel
theorem dJ1_indexOf_4cfef_0 : decode cJ1_indexOf_4cfef 0 = .ok (.iload_n 1, 1) := by decide +kernel
theorem dJ1_indexOf_4cfef_1 : decode cJ1_indexOf_4cfef 1 = .ok (.invokestatic 88, 3) := by decide +kernel
theorem dJ1_indexOf_4cfef_4 : decode cJ1_indexOf_4cfef 4 = .ok (.ifCond .ne 5, 3) := by decide +kernel
theorem dJ1_indexOf_4cfef_7 : decode cJ1_indexOf_4cfef 7 = .ok (.iconst (-1), 1) := by decide +kernel
theorem dJ1_indexOf_4cfef_8 : decode cJ1_indexOf_4cfef 8 = .ok (.ireturn, 1) := by decide +kernel
theorem dJ1_indexOf_4cfef_9 : decode cJ1_indexOf_4cfef 9 = .ok (.iload_n 2, 1) := by decide +kernel
theorem dJ1_indexOf_4cfef_10 : decode cJ1_indexOf_4cfef 10 = .ok (.iconst 0, 1) := by decide +kernel
theorem dJ1_indexOf_4cfef_11 : decode cJ1_indexOf_4cfef 11 = .ok (.invokestatic 92, 3) := by decide +kernel
theorem dJ1_indexOf_4cfef_14 : decode cJ1_indexOf_4cfef 14 = .ok (.istore_n 2, 1) := by decide +kernel
theorem dJ1_indexOf_4cfef_15 : decode cJ1_indexOf_4cfef 15 = .ok (.iload_n 3, 1) := by decide +kernel
theorem dJ1_indexOf_4cfef_16 : decode cJ1_indexOf_4cfef 16 = .ok (.aload_n 0, 1) := by decide +kernel
theorem dJ1_indexOf_4cfef_17 : decode cJ1_indexOf_4cfef 17 = .ok (.arraylength, 1) := by decide +kernel
theorem dJ1_indexOf_4cfef_18 : decode cJ1_indexOf_4cfef 18 = .ok (.invokestatic 38, 3) := by decide +kernel
theorem dJ1_indexOf_4cfef_21 : decode cJ1_indexOf_4cfef 21 = .ok (.istore_n 3, 1) := by decide +kernel
theorem dJ1_indexOf_4cfef_22 : decode cJ1_indexOf_4cfef 22 = .ok (.iload_n 2, 1) := by decide +kernel
theorem dJ1_indexOf_4cfef_23 : decode cJ1_indexOf_4cfef 23 = .ok (.iload_n 3, 1) := by decide +kernel
theorem dJ1_indexOf_4cfef_24 : decode cJ1_indexOf_4cfef 24 = .ok (.if_icmp .lt 5, 3) := by decide +kernel
theorem dJ1_indexOf_4cfef_27 : decode cJ1_indexOf_4cfef 27 = .ok (.iconst (-1), 1) := by decide +kernel
theorem dJ1_indexOf_4cfef_28 : decode cJ1_indexOf_4cfef 28 = .ok (.ireturn, 1) := by decide +kernel
theorem dJ1_indexOf_4cfef_29 : decode cJ1_indexOf_4cfef 29 = .ok (.aload_n 0, 1) := by decide +kernel
theorem dJ1_indexOf_4cfef_30 : decode cJ1_indexOf_4cfef 30 = .ok (.iload_n 1, 1) := by decide +kernel
theorem dJ1_indexOf_4cfef_31 : decode cJ1_indexOf_4cfef 31 = .ok (.iload_n 2, 1) := by decide +kernel
theorem dJ1_indexOf_4cfef_32 : decode cJ1_indexOf_4cfef 32 = .ok (.iload_n 3, 1) := by decide +kernel
theorem dJ1_indexOf_4cfef_33 : decode cJ1_indexOf_4cfef 33 = .ok (.invokestatic 95, 3) := by decide +kernel
theorem dJ1_indexOf_4cfef_36 : decode cJ1_indexOf_4cfef 36 = .ok (.ireturn, 1) := by decide +kernel
theorem dJ1_indexOfChar_4cfef_0 : decode cJ1_indexOfChar_4cfef 0 = .ok (.iload_n 1, 1) := by decide +kernel
theorem dJ1_indexOfChar_4cfef_1 : decode cJ1_indexOfChar_4cfef 1 = .ok (.i2b, 1) := by decide +kernel
theorem dJ1_indexOfChar_4cfef_2 : decode cJ1_indexOfChar_4cfef 2 = .ok (.istore 4, 2) := by decide +kernel
theorem dJ1_indexOfChar_4cfef_4 : decode cJ1_indexOfChar_4cfef 4 = .ok (.iload_n 2, 1) := by decide +kernel
theorem dJ1_indexOfChar_4cfef_5 : decode cJ1_indexOfChar_4cfef 5 = .ok (.istore 5, 2) := by decide +kernel
theorem dJ1_indexOfChar_4cfef_7 : decode cJ1_indexOfChar_4cfef 7 = .ok (.iload 5, 2) := by decide +kernel
theorem dJ1_indexOfChar_4cfef_9 : decode cJ1_indexOfChar_4cfef 9 = .ok (.iload_n 3, 1) := by decide +kernel
theorem dJ1_indexOfChar_4cfef_10 : decode cJ1_indexOfChar_4cfef 10 = .ok (.if_icmp .ge 21, 3) := by decide +kernel
theorem dJ1_indexOfChar_4cfef_13 : decode cJ1_indexOfChar_4cfef 13 = .ok (.aload_n 0, 1) := by decide +kernel
theorem dJ1_indexOfChar_4cfef_14 : decode cJ1_indexOfChar_4cfef 14 = .ok (.iload 5, 2) := by decide +kernel
theorem dJ1_indexOfChar_4cfef_16 : decode cJ1_indexOfChar_4cfef 16 = .ok (.baload, 1) := by decide +kernel
theorem dJ1_indexOfChar_4cfef_17 : decode cJ1_indexOfChar_4cfef 17 = .ok (.iload 4, 2) := by decide +kernel
theorem dJ1_indexOfChar_4cfef_19 : decode cJ1_indexOfChar_4cfef 19 = .ok (.if_icmp .ne 6, 3) := by decide +kernel
theorem dJ1_indexOfChar_4cfef_22 : decode cJ1_indexOfChar_4cfef 22 = .ok (.iload 5, 2) := by decide +kernel
theorem dJ1_indexOfChar_4cfef_24 : decode cJ1_indexOfChar_4cfef 24 = .ok (.ireturn, 1) := by decide +kernel
theorem dJ1_indexOfChar_4cfef_25 : decode cJ1_indexOfChar_4cfef 25 = .ok (.iinc 5 1, 3) := by decide +kernel
theorem dJ1_indexOfChar_4cfef_28 : decode cJ1_indexOfChar_4cfef 28 = .ok (.goto (-21), 3) := by decide +kernel
theorem dJ1_indexOfChar_4cfef_31 : decode cJ1_indexOfChar_4cfef 31 = .ok (.iconst (-1), 1) := by decide +kernel
theorem dJ1_indexOfChar_4cfef_32 : decode cJ1_indexOfChar_4cfef 32 = .ok (.ireturn, 1) := by decide +kernel
theorem dJ2_getChar_3b067_0 : decode cJ2_getChar_3b067 0 = .ok (.getstatic 44, 3) := by decide +kernel
theorem dJ2_getChar_3b067_3 : decode cJ2_getChar_3b067 3 = .ok (.ifCond .ne 25, 3) := by decide +kernel
theorem dJ2_getChar_3b067_6 : decode cJ2_getChar_3b067 6 = .ok (.iload_n 1, 1) := by decide +kernel
theorem dJ2_getChar_3b067_7 : decode cJ2_getChar_3b067 7 = .ok (.ifCond .lt 11, 3) := by decide +kernel
theorem dJ2_getChar_3b067_10 : decode cJ2_getChar_3b067 10 = .ok (.iload_n 1, 1) := by decide +kernel
theorem dJ2_getChar_3b067_11 : decode cJ2_getChar_3b067 11 = .ok (.aload_n 0, 1) := by decide +kernel
theorem dJ2_getChar_3b067_12 : decode cJ2_getChar_3b067 12 = .ok (.invokestatic 48, 3) := by decide +kernel
theorem dJ2_getChar_3b067_15 : decode cJ2_getChar_3b067 15 = .ok (.if_icmp .lt 13, 3) := by decide +kernel
theorem dJ2_getChar_3b067_18 : decode cJ2_getChar_3b067 18 = .ok (.new 52, 3) := by decide +kernel
theorem dJ2_getChar_3b067_21 : decode cJ2_getChar_3b067 21 = .ok (.dup, 1) := by decide +kernel
theorem dJ2_getChar_3b067_22 : decode cJ2_getChar_3b067 22 = .ok (.ldc 54, 2) := by decide +kernel
theorem dJ2_getChar_3b067_24 : decode cJ2_getChar_3b067 24 = .ok (.invokespecial 56, 3) := by decide +kernel
theorem dJ2_getChar_3b067_27 : decode cJ2_getChar_3b067 27 = .ok (.athrow, 1) := by decide +kernel
theorem dJ2_getChar_3b067_28 : decode cJ2_getChar_3b067 28 = .ok (.iload_n 1, 1) := by decide +kernel
theorem dJ2_getChar_3b067_29 : decode cJ2_getChar_3b067 29 = .ok (.iconst 1, 1) := by decide +kernel
theorem dJ2_getChar_3b067_30 : decode cJ2_getChar_3b067 30 = .ok (.ishl, 1) := by decide +kernel
theorem dJ2_getChar_3b067_31 : decode cJ2_getChar_3b067 31 = .ok (.istore_n 1, 1) := by decide +kernel
theorem dJ2_getChar_3b067_32 : decode cJ2_getChar_3b067 32 = .ok (.aload_n 0, 1) := by decide +kernel
theorem dJ2_getChar_3b067_33 : decode cJ2_getChar_3b067 33 = .ok (.iload_n 1, 1) := by decide +kernel
theorem dJ2_getChar_3b067_34 : decode cJ2_getChar_3b067 34 = .ok (.iinc 1 1, 3) := by decide +kernel
theorem dJ2_getChar_3b067_37 : decode cJ2_getChar_3b067 37 = .ok (.baload, 1) := by decide +kernel
theorem dJ2_getChar_3b067_38 : decode cJ2_getChar_3b067 38 = .ok (.sipush 255, 3) := by decide +kernel
theorem dJ2_getChar_3b067_41 : decode cJ2_getChar_3b067 41 = .ok (.iand, 1) := by decide +kernel
theorem dJ2_getChar_3b067_42 : decode cJ2_getChar_3b067 42 = .ok (.getstatic 59, 3) := by decide +kernel
theorem dJ2_getChar_3b067_45 : decode cJ2_getChar_3b067 45 = .ok (.ishl, 1) := by decide +kernel
theorem dJ2_getChar_3b067_46 : decode cJ2_getChar_3b067 46 = .ok (.aload_n 0, 1) := by decide +kernel
theorem dJ2_getChar_3b067_47 : decode cJ2_getChar_3b067 47 = .ok (.iload_n 1, 1) := by decide +kernel
theorem dJ2_getChar_3b067_48 : decode cJ2_getChar_3b067 48 = .ok (.baload, 1) := by decide +kernel
theorem dJ2_getChar_3b067_49 : decode cJ2_getChar_3b067 49 = .ok (.sipush 255, 3) := by decide +kernel
theorem dJ2_getChar_3b067_52 : decode cJ2_getChar_3b067 52 = .ok (.iand, 1) := by decide +kernel
theorem dJ2_getChar_3b067_53 : decode cJ2_getChar_3b067 53 = .ok (.getstatic 63, 3) := by decide +kernel
theorem dJ2_getChar_3b067_56 : decode cJ2_getChar_3b067 56 = .ok (.ishl, 1) := by decide +kernel
theorem dJ2_getChar_3b067_57 : decode cJ2_getChar_3b067 57 = .ok (.ior, 1) := by decide +kernel
theorem dJ2_getChar_3b067_58 : decode cJ2_getChar_3b067 58 = .ok (.i2c, 1) := by decide +kernel
theorem dJ2_getChar_3b067_59 : decode cJ2_getChar_3b067 59 = .ok (.ireturn, 1) := by decide +kernel
theorem dJ2_length_9d52b_0 : decode cJ2_length_9d52b 0 = .ok (.aload_n 0, 1) := by decide +kernel
theorem dJ2_length_9d52b_1 : decode cJ2_length_9d52b 1 = .ok (.arraylength, 1) := by decide +kernel
theorem dJ2_length_9d52b_2 : decode cJ2_length_9d52b 2 = .ok (.iconst 1, 1) := by decide +kernel
theorem dJ2_length_9d52b_3 : decode cJ2_length_9d52b 3 = .ok (.ishr, 1) := by decide +kernel
theorem dJ2_length_9d52b_4 : decode cJ2_length_9d52b 4 = .ok (.ireturn, 1) := by decide +kernel
theorem dJ2_indexOf_4cfef_0 : decode cJ2_indexOf_4cfef 0 = .ok (.iload_n 2, 1) := by decide +kernel
theorem dJ2_indexOf_4cfef_1 : decode cJ2_indexOf_4cfef 1 = .ok (.iconst 0, 1) := by decide +kernel
theorem dJ2_indexOf_4cfef_2 : decode cJ2_indexOf_4cfef 2 = .ok (.invokestatic 224, 3) := by decide +kernel
theorem dJ2_indexOf_4cfef_5 : decode cJ2_indexOf_4cfef 5 = .ok (.istore_n 2, 1) := by decide +kernel
theorem dJ2_indexOf_4cfef_6 : decode cJ2_indexOf_4cfef 6 = .ok (.iload_n 3, 1) := by decide +kernel
theorem dJ2_indexOf_4cfef_7 : decode cJ2_indexOf_4cfef 7 = .ok (.aload_n 0, 1) := by decide +kernel
theorem dJ2_indexOf_4cfef_8 : decode cJ2_indexOf_4cfef 8 = .ok (.arraylength, 1) := by decide +kernel
theorem dJ2_indexOf_4cfef_9 : decode cJ2_indexOf_4cfef 9 = .ok (.iconst 1, 1) := by decide +kernel
theorem dJ2_indexOf_4cfef_10 : decode cJ2_indexOf_4cfef 10 = .ok (.ishr, 1) := by decide +kernel
theorem dJ2_indexOf_4cfef_11 : decode cJ2_indexOf_4cfef 11 = .ok (.invokestatic 183, 3) := by decide +kernel
theorem dJ2_indexOf_4cfef_14 : decode cJ2_indexOf_4cfef 14 = .ok (.istore_n 3, 1) := by decide +kernel
theorem dJ2_indexOf_4cfef_15 : decode cJ2_indexOf_4cfef 15 = .ok (.iload_n 2, 1) := by decide +kernel
theorem dJ2_indexOf_4cfef_16 : decode cJ2_indexOf_4cfef 16 = .ok (.iload_n 3, 1) := by decide +kernel
theorem dJ2_indexOf_4cfef_17 : decode cJ2_indexOf_4cfef 17 = .ok (.if_icmp .lt 5, 3) := by decide +kernel
theorem dJ2_indexOf_4cfef_20 : decode cJ2_indexOf_4cfef 20 = .ok (.iconst (-1), 1) := by decide +kernel
theorem dJ2_indexOf_4cfef_21 : decode cJ2_indexOf_4cfef 21 = .ok (.ireturn, 1) := by decide +kernel
theorem dJ2_indexOf_4cfef_22 : decode cJ2_indexOf_4cfef 22 = .ok (.iload_n 1, 1) := by decide +kernel
theorem dJ2_indexOf_4cfef_23 : decode cJ2_indexOf_4cfef 23 = .ok (.ldc 227, 2) := by decide +kernel
theorem dJ2_indexOf_4cfef_25 : decode cJ2_indexOf_4cfef 25 = .ok (.if_icmp .ge 11, 3) := by decide +kernel
theorem dJ2_indexOf_4cfef_28 : decode cJ2_indexOf_4cfef 28 = .ok (.aload_n 0, 1) := by decide +kernel
theorem dJ2_indexOf_4cfef_29 : decode cJ2_indexOf_4cfef 29 = .ok (.iload_n 1, 1) := by decide +kernel
theorem dJ2_indexOf_4cfef_30 : decode cJ2_indexOf_4cfef 30 = .ok (.iload_n 2, 1) := by decide +kernel
theorem dJ2_indexOf_4cfef_31 : decode cJ2_indexOf_4cfef 31 = .ok (.iload_n 3, 1) := by decide +kernel
theorem dJ2_indexOf_4cfef_32 : decode cJ2_indexOf_4cfef 32 = .ok (.invokestatic 228, 3) := by decide +kernel
theorem dJ2_indexOf_4cfef_35 : decode cJ2_indexOf_4cfef 35 = .ok (.ireturn, 1) := by decide +kernel
theorem dJ2_indexOf_4cfef_36 : decode cJ2_indexOf_4cfef 36 = .ok (.aload_n 0, 1) := by decide +kernel
theorem dJ2_indexOf_4cfef_37 : decode cJ2_indexOf_4cfef 37 = .ok (.iload_n 1, 1) := by decide +kernel
theorem dJ2_indexOf_4cfef_38 : decode cJ2_indexOf_4cfef 38 = .ok (.iload_n 2, 1) := by decide +kernel
theorem dJ2_indexOf_4cfef_39 : decode cJ2_indexOf_4cfef 39 = .ok (.iload_n 3, 1) := by decide +kernel
theorem dJ2_indexOf_4cfef_40 : decode cJ2_indexOf_4cfef 40 = .ok (.invokestatic 232, 3) := by decide +kernel
theorem dJ2_indexOf_4cfef_43 : decode cJ2_indexOf_4cfef 43 = .ok (.ireturn, 1) := by decide +kernel
theorem dJ2_indexOfChar_4cfef_0 : decode cJ2_indexOfChar_4cfef 0 = .ok (.iload_n 2, 1) := by decide +kernel
theorem dJ2_indexOfChar_4cfef_1 : decode cJ2_indexOfChar_4cfef 1 = .ok (.iload_n 3, 1) := by decide +kernel
theorem dJ2_indexOfChar_4cfef_2 : decode cJ2_indexOfChar_4cfef 2 = .ok (.aload_n 0, 1) := by decide +kernel
theorem dJ2_indexOfChar_4cfef_3 : decode cJ2_indexOfChar_4cfef 3 = .ok (.invokestatic 96, 3) := by decide +kernel
theorem dJ2_indexOfChar_4cfef_6 : decode cJ2_indexOfChar_4cfef 6 = .ok (.aload_n 0, 1) := by decide +kernel
theorem dJ2_indexOfChar_4cfef_7 : decode cJ2_indexOfChar_4cfef 7 = .ok (.iload_n 1, 1) := by decide +kernel
theorem dJ2_indexOfChar_4cfef_8 : decode cJ2_indexOfChar_4cfef 8 = .ok (.iload_n 2, 1) := by decide +kernel
theorem dJ2_indexOfChar_4cfef_9 : decode cJ2_indexOfChar_4cfef 9 = .ok (.iload_n 3, 1) := by decide +kernel
theorem dJ2_indexOfChar_4cfef_10 : decode cJ2_indexOfChar_4cfef 10 = .ok (.invokestatic 244, 3) := by decide +kernel
theorem dJ2_indexOfChar_4cfef_13 : decode cJ2_indexOfChar_4cfef 13 = .ok (.ireturn, 1) := by decide +kernel
theorem dJ2_indexOfCharUnsafe_4cfef_0 : decode cJ2_indexOfCharUnsafe_4cfef 0 = .ok (.iload_n 2, 1) := by decide +kernel
theorem dJ2_indexOfCharUnsafe_4cfef_1 : decode cJ2_indexOfCharUnsafe_4cfef 1 = .ok (.istore 4, 2) := by decide +kernel
theorem dJ2_indexOfCharUnsafe_4cfef_3 : decode cJ2_indexOfCharUnsafe_4cfef 3 = .ok (.iload 4, 2) := by decide +kernel
theorem dJ2_indexOfCharUnsafe_4cfef_5 : decode cJ2_indexOfCharUnsafe_4cfef 5 = .ok (.iload_n 3, 1) := by decide +kernel
theorem dJ2_indexOfCharUnsafe_4cfef_6 : decode cJ2_indexOfCharUnsafe_4cfef 6 = .ok (.if_icmp .ge 22, 3) := by decide +kernel
theorem dJ2_indexOfCharUnsafe_4cfef_9 : decode cJ2_indexOfCharUnsafe_4cfef 9 = .ok (.aload_n 0, 1) := by decide +kernel
theorem dJ2_indexOfCharUnsafe_4cfef_10 : decode cJ2_indexOfCharUnsafe_4cfef 10 = .ok (.iload 4, 2) := by decide +kernel
theorem dJ2_indexOfCharUnsafe_4cfef_12 : decode cJ2_indexOfCharUnsafe_4cfef 12 = .ok (.invokestatic 71, 3) := by decide +kernel
theorem dJ2_indexOfCharUnsafe_4cfef_15 : decode cJ2_indexOfCharUnsafe_4cfef 15 = .ok (.iload_n 1, 1) := by decide +kernel
theorem dJ2_indexOfCharUnsafe_4cfef_16 : decode cJ2_indexOfCharUnsafe_4cfef 16 = .ok (.if_icmp .ne 6, 3) := by decide +kernel
theorem dJ2_indexOfCharUnsafe_4cfef_19 : decode cJ2_indexOfCharUnsafe_4cfef 19 = .ok (.iload 4, 2) := by decide +kernel
theorem dJ2_indexOfCharUnsafe_4cfef_21 : decode cJ2_indexOfCharUnsafe_4cfef 21 = .ok (.ireturn, 1) := by decide +kernel
theorem dJ2_indexOfCharUnsafe_4cfef_22 : decode cJ2_indexOfCharUnsafe_4cfef 22 = .ok (.iinc 4 1, 3) := by decide +kernel
theorem dJ2_indexOfCharUnsafe_4cfef_25 : decode cJ2_indexOfCharUnsafe_4cfef 25 = .ok (.goto (-22), 3) := by decide +kernel
theorem dJ2_indexOfCharUnsafe_4cfef_28 : decode cJ2_indexOfCharUnsafe_4cfef 28 = .ok (.iconst (-1), 1) := by decide +kernel
theorem dJ2_indexOfCharUnsafe_4cfef_29 : decode cJ2_indexOfCharUnsafe_4cfef 29 = .ok (.ireturn, 1) := by decide +kernel
theorem dJ2_indexOfSupplementary_4cfef_0 : decode cJ2_indexOfSupplementary_4cfef 0 = .ok (.iload_n 1, 1) := by decide +kernel
theorem dJ2_indexOfSupplementary_4cfef_1 : decode cJ2_indexOfSupplementary_4cfef 1 = .ok (.invokestatic 164, 3) := by decide +kernel
theorem dJ2_indexOfSupplementary_4cfef_4 : decode cJ2_indexOfSupplementary_4cfef 4 = .ok (.ifCond .eq 65, 3) := by decide +kernel
theorem dJ2_indexOfSupplementary_4cfef_7 : decode cJ2_indexOfSupplementary_4cfef 7 = .ok (.iload_n 1, 1) := by decide +kernel
theorem dJ2_indexOfSupplementary_4cfef_8 : decode cJ2_indexOfSupplementary_4cfef 8 = .ok (.invokestatic 157, 3) := by decide +kernel
theorem dJ2_indexOfSupplementary_4cfef_11 : decode cJ2_indexOfSupplementary_4cfef 11 = .ok (.istore 4, 2) := by decide +kernel
theorem dJ2_indexOfSupplementary_4cfef_13 : decode cJ2_indexOfSupplementary_4cfef 13 = .ok (.iload_n 1, 1) := by decide +kernel
theorem dJ2_indexOfSupplementary_4cfef_14 : decode cJ2_indexOfSupplementary_4cfef 14 = .ok (.invokestatic 161, 3) := by decide +kernel
theorem dJ2_indexOfSupplementary_4cfef_17 : decode cJ2_indexOfSupplementary_4cfef 17 = .ok (.istore 5, 2) := by decide +kernel
theorem dJ2_indexOfSupplementary_4cfef_19 : decode cJ2_indexOfSupplementary_4cfef 19 = .ok (.iload_n 2, 1) := by decide +kernel
theorem dJ2_indexOfSupplementary_4cfef_20 : decode cJ2_indexOfSupplementary_4cfef 20 = .ok (.iload_n 3, 1) := by decide +kernel
theorem dJ2_indexOfSupplementary_4cfef_21 : decode cJ2_indexOfSupplementary_4cfef 21 = .ok (.aload_n 0, 1) := by decide +kernel
theorem dJ2_indexOfSupplementary_4cfef_22 : decode cJ2_indexOfSupplementary_4cfef 22 = .ok (.invokestatic 96, 3) := by decide +kernel
theorem dJ2_indexOfSupplementary_4cfef_25 : decode cJ2_indexOfSupplementary_4cfef 25 = .ok (.iload_n 2, 1) := by decide +kernel
theorem dJ2_indexOfSupplementary_4cfef_26 : decode cJ2_indexOfSupplementary_4cfef 26 = .ok (.istore 6, 2) := by decide +kernel
theorem dJ2_indexOfSupplementary_4cfef_28 : decode cJ2_indexOfSupplementary_4cfef 28 = .ok (.iload 6, 2) := by decide +kernel
theorem dJ2_indexOfSupplementary_4cfef_30 : decode cJ2_indexOfSupplementary_4cfef 30 = .ok (.iload_n 3, 1) := by decide +kernel
theorem dJ2_indexOfSupplementary_4cfef_31 : decode cJ2_indexOfSupplementary_4cfef 31 = .ok (.iconst 1, 1) := by decide +kernel
theorem dJ2_indexOfSupplementary_4cfef_32 : decode cJ2_indexOfSupplementary_4cfef 32 = .ok (.isub, 1) := by decide +kernel
theorem dJ2_indexOfSupplementary_4cfef_33 : decode cJ2_indexOfSupplementary_4cfef 33 = .ok (.if_icmp .ge 36, 3) := by decide +kernel
theorem dJ2_indexOfSupplementary_4cfef_36 : decode cJ2_indexOfSupplementary_4cfef 36 = .ok (.aload_n 0, 1) := by decide +kernel
theorem dJ2_indexOfSupplementary_4cfef_37 : decode cJ2_indexOfSupplementary_4cfef 37 = .ok (.iload 6, 2) := by decide +kernel
theorem dJ2_indexOfSupplementary_4cfef_39 : decode cJ2_indexOfSupplementary_4cfef 39 = .ok (.invokestatic 71, 3) := by decide +kernel
theorem dJ2_indexOfSupplementary_4cfef_42 : decode cJ2_indexOfSupplementary_4cfef 42 = .ok (.iload 4, 2) := by decide +kernel
theorem dJ2_indexOfSupplementary_4cfef_44 : decode cJ2_indexOfSupplementary_4cfef 44 = .ok (.if_icmp .ne 19, 3) := by decide +kernel
theorem dJ2_indexOfSupplementary_4cfef_47 : decode cJ2_indexOfSupplementary_4cfef 47 = .ok (.aload_n 0, 1) := by decide +kernel
theorem dJ2_indexOfSupplementary_4cfef_48 : decode cJ2_indexOfSupplementary_4cfef 48 = .ok (.iload 6, 2) := by decide +kernel
theorem dJ2_indexOfSupplementary_4cfef_50 : decode cJ2_indexOfSupplementary_4cfef 50 = .ok (.iconst 1, 1) := by decide +kernel
theorem dJ2_indexOfSupplementary_4cfef_51 : decode cJ2_indexOfSupplementary_4cfef 51 = .ok (.iadd, 1) := by decide +kernel
theorem dJ2_indexOfSupplementary_4cfef_52 : decode cJ2_indexOfSupplementary_4cfef 52 = .ok (.invokestatic 71, 3) := by decide +kernel
theorem dJ2_indexOfSupplementary_4cfef_55 : decode cJ2_indexOfSupplementary_4cfef 55 = .ok (.iload 5, 2) := by decide +kernel
theorem dJ2_indexOfSupplementary_4cfef_57 : decode cJ2_indexOfSupplementary_4cfef 57 = .ok (.if_icmp .ne 6, 3) := by decide +kernel
theorem dJ2_indexOfSupplementary_4cfef_60 : decode cJ2_indexOfSupplementary_4cfef 60 = .ok (.iload 6, 2) := by decide +kernel
theorem dJ2_indexOfSupplementary_4cfef_62 : decode cJ2_indexOfSupplementary_4cfef 62 = .ok (.ireturn, 1) := by decide +kernel
theorem dJ2_indexOfSupplementary_4cfef_63 : decode cJ2_indexOfSupplementary_4cfef 63 = .ok (.iinc 6 1, 3) := by decide +kernel
theorem dJ2_indexOfSupplementary_4cfef_66 : decode cJ2_indexOfSupplementary_4cfef 66 = .ok (.goto (-38), 3) := by decide +kernel
theorem dJ2_indexOfSupplementary_4cfef_69 : decode cJ2_indexOfSupplementary_4cfef 69 = .ok (.iconst (-1), 1) := by decide +kernel
theorem dJ2_indexOfSupplementary_4cfef_70 : decode cJ2_indexOfSupplementary_4cfef 70 = .ok (.ireturn, 1) := by decide +kernel
theorem dJ2_charAt_3b067_0 : decode cJ2_charAt_3b067 0 = .ok (.iload_n 1, 1) := by decide +kernel
theorem dJ2_charAt_3b067_1 : decode cJ2_charAt_3b067 1 = .ok (.aload_n 0, 1) := by decide +kernel
theorem dJ2_charAt_3b067_2 : decode cJ2_charAt_3b067 2 = .ok (.invokestatic 67, 3) := by decide +kernel
theorem dJ2_charAt_3b067_5 : decode cJ2_charAt_3b067 5 = .ok (.aload_n 0, 1) := by decide +kernel
theorem dJ2_charAt_3b067_6 : decode cJ2_charAt_3b067 6 = .ok (.iload_n 1, 1) := by decide +kernel
theorem dJ2_charAt_3b067_7 : decode cJ2_charAt_3b067 7 = .ok (.invokestatic 71, 3) := by decide +kernel
theorem dJ2_charAt_3b067_10 : decode cJ2_charAt_3b067 10 = .ok (.ireturn, 1) := by decide +kernel
theorem dJ2_checkIndex_2214a_0 : decode cJ2_checkIndex_2214a 0 = .ok (.iload_n 0, 1) := by decide +kernel
theorem dJ2_checkIndex_2214a_1 : decode cJ2_checkIndex_2214a 1 = .ok (.aload_n 1, 1) := by decide +kernel
theorem dJ2_checkIndex_2214a_2 : decode cJ2_checkIndex_2214a 2 = .ok (.invokestatic 48, 3) := by decide +kernel
theorem dJ2_checkIndex_2214a_5 : decode cJ2_checkIndex_2214a 5 = .ok (.invokestatic 414, 3) := by decide +kernel
theorem dJ2_checkIndex_2214a_8 : decode cJ2_checkIndex_2214a 8 = .ok (.return_, 1) := by decide +kernel
theorem dJ2_checkBoundsBeginEnd_d044e_0 : decode cJ2_checkBoundsBeginEnd_d044e 0 = .ok (.iload_n 0, 1) := by decide +kernel
theorem dJ2_checkBoundsBeginEnd_d044e_1 : decode cJ2_checkBoundsBeginEnd_d044e 1 = .ok (.iload_n 1, 1) := by decide +kernel
theorem dJ2_checkBoundsBeginEnd_d044e_2 : decode cJ2_checkBoundsBeginEnd_d044e 2 = .ok (.aload_n 2, 1) := by decide +kernel
theorem dJ2_checkBoundsBeginEnd_d044e_3 : decode cJ2_checkBoundsBeginEnd_d044e 3 = .ok (.invokestatic 48, 3) := by decide +kernel
theorem dJ2_checkBoundsBeginEnd_d044e_6 : decode cJ2_checkBoundsBeginEnd_d044e 6 = .ok (.invokestatic 241, 3) := by decide +kernel
theorem dJ2_checkBoundsBeginEnd_d044e_9 : decode cJ2_checkBoundsBeginEnd_d044e 9 = .ok (.return_, 1) := by decide +kernel
theorem dJ3_checkIndex_8e157_0 : decode cJ3_checkIndex_8e157 0 = .ok (.iload_n 0, 1) := by decide +kernel
theorem dJ3_checkIndex_8e157_1 : decode cJ3_checkIndex_8e157 1 = .ok (.ifCond .lt 8, 3) := by decide +kernel
theorem dJ3_checkIndex_8e157_4 : decode cJ3_checkIndex_8e157 4 = .ok (.iload_n 0, 1) := by decide +kernel
theorem dJ3_checkIndex_8e157_5 : decode cJ3_checkIndex_8e157 5 = .ok (.iload_n 1, 1) := by decide +kernel
theorem dJ3_checkIndex_8e157_6 : decode cJ3_checkIndex_8e157 6 = .ok (.if_icmp .lt 10, 3) := by decide +kernel
theorem dJ3_checkIndex_8e157_9 : decode cJ3_checkIndex_8e157 9 = .ok (.aload_n 2, 1) := by decide +kernel
theorem dJ3_checkIndex_8e157_10 : decode cJ3_checkIndex_8e157 10 = .ok (.iload_n 0, 1) := by decide +kernel
theorem dJ3_checkIndex_8e157_11 : decode cJ3_checkIndex_8e157 11 = .ok (.iload_n 1, 1) := by decide +kernel
theorem dJ3_checkIndex_8e157_12 : decode cJ3_checkIndex_8e157 12 = .ok (.invokestatic 95, 3) := by decide +kernel
theorem dJ3_checkIndex_8e157_15 : decode cJ3_checkIndex_8e157 15 = .ok (.athrow, 1) := by decide +kernel
theorem dJ3_checkIndex_8e157_16 : decode cJ3_checkIndex_8e157 16 = .ok (.iload_n 0, 1) := by decide +kernel
theorem dJ3_checkIndex_8e157_17 : decode cJ3_checkIndex_8e157 17 = .ok (.ireturn, 1) := by decide +kernel
theorem dJ3_checkFromToIndex_8c36e_0 : decode cJ3_checkFromToIndex_8c36e 0 = .ok (.iload_n 0, 1) := by decide +kernel
theorem dJ3_checkFromToIndex_8c36e_1 : decode cJ3_checkFromToIndex_8c36e 1 = .ok (.ifCond .lt 13, 3) := by decide +kernel
theorem dJ3_checkFromToIndex_8c36e_4 : decode cJ3_checkFromToIndex_8c36e 4 = .ok (.iload_n 0, 1) := by decide +kernel
theorem dJ3_checkFromToIndex_8c36e_5 : decode cJ3_checkFromToIndex_8c36e 5 = .ok (.iload_n 1, 1) := by decide +kernel
theorem dJ3_checkFromToIndex_8c36e_6 : decode cJ3_checkFromToIndex_8c36e 6 = .ok (.if_icmp .gt 8, 3) := by decide +kernel
theorem dJ3_checkFromToIndex_8c36e_9 : decode cJ3_checkFromToIndex_8c36e 9 = .ok (.iload_n 1, 1) := by decide +kernel
theorem dJ3_checkFromToIndex_8c36e_10 : decode cJ3_checkFromToIndex_8c36e 10 = .ok (.iload_n 2, 1) := by decide +kernel
theorem dJ3_checkFromToIndex_8c36e_11 : decode cJ3_checkFromToIndex_8c36e 11 = .ok (.if_icmp .le 11, 3) := by decide +kernel
theorem dJ3_checkFromToIndex_8c36e_14 : decode cJ3_checkFromToIndex_8c36e 14 = .ok (.aload_n 3, 1) := by decide +kernel
theorem dJ3_checkFromToIndex_8c36e_15 : decode cJ3_checkFromToIndex_8c36e 15 = .ok (.iload_n 0, 1) := by decide +kernel
theorem dJ3_checkFromToIndex_8c36e_16 : decode cJ3_checkFromToIndex_8c36e 16 = .ok (.iload_n 1, 1) := by decide +kernel
theorem dJ3_checkFromToIndex_8c36e_17 : decode cJ3_checkFromToIndex_8c36e 17 = .ok (.iload_n 2, 1) := by decide +kernel
theorem dJ3_checkFromToIndex_8c36e_18 : decode cJ3_checkFromToIndex_8c36e 18 = .ok (.invokestatic 99, 3) := by decide +kernel
theorem dJ3_checkFromToIndex_8c36e_21 : decode cJ3_checkFromToIndex_8c36e 21 = .ok (.athrow, 1) := by decide +kernel
theorem dJ3_checkFromToIndex_8c36e_22 : decode cJ3_checkFromToIndex_8c36e 22 = .ok (.iload_n 0, 1) := by decide +kernel
theorem dJ3_checkFromToIndex_8c36e_23 : decode cJ3_checkFromToIndex_8c36e 23 = .ok (.ireturn, 1) := by decide +kernel
