theorem dX5_init_0 : decode cX5_init 0 = .ok (.aload_n 0, 1) := by decide +kernel
theorem dX5_init_1 : decode cX5_init 1 = .ok (.invokespecial 1, 3) := by decide +kernel
theorem dX5_init_4 : decode cX5_init 4 = .ok (.aload_n 0, 1) := by decide +kernel
theorem dX5_init_5 : decode cX5_init 5 = .ok (.bipush 7, 2) := by decide +kernel
theorem dX5_init_7 : decode cX5_init 7 = .ok (.newarray .int, 2) := by decide +kernel
theorem dX5_init_9 : decode cX5_init 9 = .ok (.putfield 7, 3) := by decide +kernel
theorem dX5_init_12 : decode cX5_init 12 = .ok (.aload_n 0, 1) := by decide +kernel
theorem dX5_init_13 : decode cX5_init 13 = .ok (.bipush 7, 2) := by decide +kernel
theorem dX5_init_15 : decode cX5_init 15 = .ok (.newarray .int, 2) := by decide +kernel
theorem dX5_init_17 : decode cX5_init 17 = .ok (.putfield 13, 3) := by decide +kernel
theorem dX5_init_20 : decode cX5_init 20 = .ok (.aload_n 0, 1) := by decide +kernel
theorem dX5_init_21 : decode cX5_init 21 = .ok (.bipush 7, 2) := by decide +kernel
theorem dX5_init_23 : decode cX5_init 23 = .ok (.newarray .int, 2) := by decide +kernel
theorem dX5_init_25 : decode cX5_init 25 = .ok (.putfield 16, 3) := by decide +kernel
theorem dX5_init_28 : decode cX5_init 28 = .ok (.aload_n 0, 1) := by decide +kernel
theorem dX5_init_29 : decode cX5_init 29 = .ok (.bipush 7, 2) := by decide +kernel
theorem dX5_init_31 : decode cX5_init 31 = .ok (.newarray .int, 2) := by decide +kernel
theorem dX5_init_33 : decode cX5_init 33 = .ok (.putfield 19, 3) := by decide +kernel
theorem dX5_init_36 : decode cX5_init 36 = .ok (.aload_n 0, 1) := by decide +kernel
theorem dX5_init_37 : decode cX5_init 37 = .ok (.bipush 7, 2) := by decide +kernel
theorem dX5_init_39 : decode cX5_init 39 = .ok (.newarray .int, 2) := by decide +kernel
theorem dX5_init_41 : decode cX5_init 41 = .ok (.putfield 22, 3) := by decide +kernel
theorem dX5_init_44 : decode cX5_init 44 = .ok (.aload_n 0, 1) := by decide +kernel
theorem dX5_init_45 : decode cX5_init 45 = .ok (.bipush 7, 2) := by decide +kernel
theorem dX5_init_47 : decode cX5_init 47 = .ok (.newarray .int, 2) := by decide +kernel
theorem dX5_init_49 : decode cX5_init 49 = .ok (.putfield 25, 3) := by decide +kernel
theorem dX5_init_52 : decode cX5_init 52 = .ok (.aload_n 0, 1) := by decide +kernel
theorem dX5_init_53 : decode cX5_init 53 = .ok (.bipush 7, 2) := by decide +kernel
theorem dX5_init_55 : decode cX5_init 55 = .ok (.newarray .int, 2) := by decide +kernel
theorem dX5_init_57 : decode cX5_init 57 = .ok (.putfield 28, 3) := by decide +kernel
theorem dX5_init_60 : decode cX5_init 60 = .ok (.aload_n 0, 1) := by decide +kernel
theorem dX5_init_61 : decode cX5_init 61 = .ok (.bipush 96, 2) := by decide +kernel
theorem dX5_init_63 : decode cX5_init 63 = .ok (.newarray .int, 2) := by decide +kernel
theorem dX5_init_65 : decode cX5_init 65 = .ok (.putfield 31, 3) := by decide +kernel
theorem dX5_init_68 : decode cX5_init 68 = .ok (.aload_n 0, 1) := by decide +kernel
theorem dX5_init_69 : decode cX5_init 69 = .ok (.bipush 48, 2) := by decide +kernel
theorem dX5_init_71 : decode cX5_init 71 = .ok (.newarray .int, 2) := by decide +kernel
theorem dX5_init_73 : decode cX5_init 73 = .ok (.putfield 34, 3) := by decide +kernel
theorem dX5_init_76 : decode cX5_init 76 = .ok (.aload_n 0, 1) := by decide +kernel
theorem dX5_init_77 : decode cX5_init 77 = .ok (.bipush 48, 2) := by decide +kernel
theorem dX5_init_79 : decode cX5_init 79 = .ok (.newarray .int, 2) := by decide +kernel
theorem dX5_init_81 : decode cX5_init 81 = .ok (.putfield 37, 3) := by decide +kernel
theorem dX5_init_84 : decode cX5_init 84 = .ok (.aload_n 0, 1) := by decide +kernel
theorem dX5_init_85 : decode cX5_init 85 = .ok (.sipush 144, 3) := by decide +kernel
theorem dX5_init_88 : decode cX5_init 88 = .ok (.newarray .int, 2) := by decide +kernel
theorem dX5_init_90 : decode cX5_init 90 = .ok (.putfield 40, 3) := by decide +kernel
theorem dX5_init_93 : decode cX5_init 93 = .ok (.aload_n 0, 1) := by decide +kernel
theorem dX5_init_94 : decode cX5_init 94 = .ok (.sipush 132, 3) := by decide +kernel
theorem dX5_init_97 : decode cX5_init 97 = .ok (.newarray .int, 2) := by decide +kernel
theorem dX5_init_99 : decode cX5_init 99 = .ok (.putfield 43, 3) := by decide +kernel
theorem dX5_init_102 : decode cX5_init 102 = .ok (.aload_n 0, 1) := by decide +kernel
theorem dX5_init_103 : decode cX5_init 103 = .ok (.bipush 7, 2) := by decide +kernel
theorem dX5_init_105 : decode cX5_init 105 = .ok (.newarray .int, 2) := by decide +kernel
theorem dX5_init_107 : decode cX5_init 107 = .ok (.putfield 46, 3) := by decide +kernel
theorem dX5_init_110 : decode cX5_init 110 = .ok (.aload_n 0, 1) := by decide +kernel
theorem dX5_init_111 : decode cX5_init 111 = .ok (.bipush 8, 2) := by decide +kernel
theorem dX5_init_113 : decode cX5_init 113 = .ok (.newarray .int, 2) := by decide +kernel
theorem dX5_init_115 : decode cX5_init 115 = .ok (.putfield 49, 3) := by decide +kernel
theorem dX5_init_118 : decode cX5_init 118 = .ok (.aload_n 0, 1) := by decide +kernel
theorem dX5_init_119 : decode cX5_init 119 = .ok (.bipush 16, 2) := by decide +kernel
theorem dX5_init_121 : decode cX5_init 121 = .ok (.newarray .int, 2) := by decide +kernel
theorem dX5_init_123 : decode cX5_init 123 = .ok (.putfield 52, 3) := by decide +kernel
theorem dX5_init_126 : decode cX5_init 126 = .ok (.aload_n 0, 1) := by decide +kernel
theorem dX5_init_127 : decode cX5_init 127 = .ok (.iconst 0, 1) := by decide +kernel
theorem dX5_init_128 : decode cX5_init 128 = .ok (.putfield 55, 3) := by decide +kernel
theorem dX5_init_131 : decode cX5_init 131 = .ok (.return_, 1) := by decide +kernel
theorem dX5_no_0 : decode cX5_no 0 = .ok (.aload_n 0, 1) := by decide +kernel
theorem dX5_no_1 : decode cX5_no 1 = .ok (.getfield 7, 3) := by decide +kernel
theorem dX5_no_4 : decode cX5_no 4 = .ok (.iload_n 1, 1) := by decide +kernel
theorem dX5_no_5 : decode cX5_no 5 = .ok (.ineg, 1) := by decide +kernel
theorem dX5_no_6 : decode cX5_no 6 = .ok (.dup2, 1) := by decide +kernel
theorem dX5_no_7 : decode cX5_no 7 = .ok (.iaload, 1) := by decide +kernel
theorem dX5_no_8 : decode cX5_no 8 = .ok (.iconst 1, 1) := by decide +kernel
theorem dX5_no_9 : decode cX5_no 9 = .ok (.iadd, 1) := by decide +kernel
theorem dX5_no_10 : decode cX5_no 10 = .ok (.iastore, 1) := by decide +kernel
theorem dX5_no_11 : decode cX5_no 11 = .ok (.iload_n 1, 1) := by decide +kernel
theorem dX5_no_12 : decode cX5_no 12 = .ok (.ireturn, 1) := by decide +kernel
theorem dX5_lower_0 : decode cX5_lower 0 = .ok (.aload_n 0, 1) := by decide +kernel
theorem dX5_lower_1 : decode cX5_lower 1 = .ok (.getfield 7, 3) := by decide +kernel
theorem dX5_lower_4 : decode cX5_lower 4 = .ok (.iload_n 1, 1) := by decide +kernel
theorem dX5_lower_5 : decode cX5_lower 5 = .ok (.ineg, 1) := by decide +kernel
theorem dX5_lower_6 : decode cX5_lower 6 = .ok (.dup2, 1) := by decide +kernel
theorem dX5_lower_7 : decode cX5_lower 7 = .ok (.iaload, 1) := by decide +kernel
theorem dX5_lower_8 : decode cX5_lower 8 = .ok (.iconst 1, 1) := by decide +kernel
theorem dX5_lower_9 : decode cX5_lower 9 = .ok (.iadd, 1) := by decide +kernel
theorem dX5_lower_10 : decode cX5_lower 10 = .ok (.iastore, 1) := by decide +kernel
theorem dX5_lower_11 : decode cX5_lower 11 = .ok (.ldc 59, 2) := by decide +kernel
theorem dX5_lower_13 : decode cX5_lower 13 = .ok (.iload_n 1, 1) := by decide +kernel
theorem dX5_lower_14 : decode cX5_lower 14 = .ok (.isub, 1) := by decide +kernel
theorem dX5_lower_15 : decode cX5_lower 15 = .ok (.ireturn, 1) := by decide +kernel
theorem dX5_lowestOf_0 : decode cX5_lowestOf 0 = .ok (.aload_n 0, 1) := by decide +kernel
theorem dX5_lowestOf_1 : decode cX5_lowestOf 1 = .ok (.getfield 7, 3) := by decide +kernel
theorem dX5_lowestOf_4 : decode cX5_lowestOf 4 = .ok (.iload_n 1, 1) := by decide +kernel
theorem dX5_lowestOf_5 : decode cX5_lowestOf 5 = .ok (.ineg, 1) := by decide +kernel
theorem dX5_lowestOf_6 : decode cX5_lowestOf 6 = .ok (.dup2, 1) := by decide +kernel
theorem dX5_lowestOf_7 : decode cX5_lowestOf 7 = .ok (.iaload, 1) := by decide +kernel
theorem dX5_lowestOf_8 : decode cX5_lowestOf 8 = .ok (.iconst 1, 1) := by decide +kernel
theorem dX5_lowestOf_9 : decode cX5_lowestOf 9 = .ok (.iadd, 1) := by decide +kernel
theorem dX5_lowestOf_10 : decode cX5_lowestOf 10 = .ok (.iastore, 1) := by decide +kernel
theorem dX5_lowestOf_11 : decode cX5_lowestOf 11 = .ok (.ldc2_w 60, 3) := by decide +kernel
theorem dX5_lowestOf_14 : decode cX5_lowestOf 14 = .ok (.iload_n 1, 1) := by decide +kernel
theorem dX5_lowestOf_15 : decode cX5_lowestOf 15 = .ok (.i2l, 1) := by decide +kernel
theorem dX5_lowestOf_16 : decode cX5_lowestOf 16 = .ok (.lsub, 1) := by decide +kernel
theorem dX5_lowestOf_17 : decode cX5_lowestOf 17 = .ok (.lreturn, 1) := by decide +kernel
theorem dX5_isIn_0 : decode cX5_isIn 0 = .ok (.iload_n 0, 1) := by decide +kernel
theorem dX5_isIn_1 : decode cX5_isIn 1 = .ok (.iload_n 1, 1) := by decide +kernel
theorem dX5_isIn_2 : decode cX5_isIn 2 = .ok (.if_icmp .lt 12, 3) := by decide +kernel
theorem dX5_isIn_5 : decode cX5_isIn 5 = .ok (.iload_n 0, 1) := by decide +kernel
theorem dX5_isIn_6 : decode cX5_isIn 6 = .ok (.iload_n 2, 1) := by decide +kernel
theorem dX5_isIn_7 : decode cX5_isIn 7 = .ok (.if_icmp .gt 7, 3) := by decide +kernel
theorem dX5_isIn_10 : decode cX5_isIn 10 = .ok (.iconst 1, 1) := by decide +kernel
theorem dX5_isIn_11 : decode cX5_isIn 11 = .ok (.goto 4, 3) := by decide +kernel
theorem dX5_isIn_14 : decode cX5_isIn 14 = .ok (.iconst 0, 1) := by decide +kernel
theorem dX5_isIn_15 : decode cX5_isIn 15 = .ok (.ireturn, 1) := by decide +kernel
theorem dX5_bound_0 : decode cX5_bound 0 = .ok (.iload_n 0, 1) := by decide +kernel
theorem dX5_bound_1 : decode cX5_bound 1 = .ok (.iload_n 1, 1) := by decide +kernel
theorem dX5_bound_2 : decode cX5_bound 2 = .ok (.if_icmp .ge 8, 3) := by decide +kernel
theorem dX5_bound_5 : decode cX5_bound 5 = .ok (.bipush (-4), 2) := by decide +kernel
theorem dX5_bound_7 : decode cX5_bound 7 = .ok (.goto 14, 3) := by decide +kernel
theorem dX5_bound_10 : decode cX5_bound 10 = .ok (.iload_n 0, 1) := by decide +kernel
theorem dX5_bound_11 : decode cX5_bound 11 = .ok (.iload_n 2, 1) := by decide +kernel
theorem dX5_bound_12 : decode cX5_bound 12 = .ok (.if_icmp .le 8, 3) := by decide +kernel
theorem dX5_bound_15 : decode cX5_bound 15 = .ok (.bipush (-6), 2) := by decide +kernel
theorem dX5_bound_17 : decode cX5_bound 17 = .ok (.goto 4, 3) := by decide +kernel
theorem dX5_bound_20 : decode cX5_bound 20 = .ok (.iconst 0, 1) := by decide +kernel
theorem dX5_bound_21 : decode cX5_bound 21 = .ok (.ireturn, 1) := by decide +kernel
theorem dX5_held_0 : decode cX5_held 0 = .ok (.iload_n 0, 1) := by decide +kernel
theorem dX5_held_1 : decode cX5_held 1 = .ok (.iload_n 1, 1) := by decide +kernel
theorem dX5_held_2 : decode cX5_held 2 = .ok (.if_icmp .ge 7, 3) := by decide +kernel
theorem dX5_held_5 : decode cX5_held 5 = .ok (.iload_n 1, 1) := by decide +kernel
theorem dX5_held_6 : decode cX5_held 6 = .ok (.goto 13, 3) := by decide +kernel
theorem dX5_held_9 : decode cX5_held 9 = .ok (.iload_n 0, 1) := by decide +kernel
theorem dX5_held_10 : decode cX5_held 10 = .ok (.iload_n 2, 1) := by decide +kernel
theorem dX5_held_11 : decode cX5_held 11 = .ok (.if_icmp .le 7, 3) := by decide +kernel
theorem dX5_held_14 : decode cX5_held 14 = .ok (.iload_n 2, 1) := by decide +kernel
theorem dX5_held_15 : decode cX5_held 15 = .ok (.goto 4, 3) := by decide +kernel
theorem dX5_held_18 : decode cX5_held 18 = .ok (.iload_n 0, 1) := by decide +kernel
theorem dX5_held_19 : decode cX5_held 19 = .ok (.ireturn, 1) := by decide +kernel
theorem dX5_has_0 : decode cX5_has 0 = .ok (.iload_n 0, 1) := by decide +kernel
theorem dX5_has_1 : decode cX5_has 1 = .ok (.iload_n 1, 1) := by decide +kernel
theorem dX5_has_2 : decode cX5_has 2 = .ok (.ishr, 1) := by decide +kernel
theorem dX5_has_3 : decode cX5_has 3 = .ok (.iconst 1, 1) := by decide +kernel
theorem dX5_has_4 : decode cX5_has 4 = .ok (.iand, 1) := by decide +kernel
theorem dX5_has_5 : decode cX5_has 5 = .ok (.iconst 1, 1) := by decide +kernel
theorem dX5_has_6 : decode cX5_has 6 = .ok (.if_icmp .ne 7, 3) := by decide +kernel
theorem dX5_has_9 : decode cX5_has 9 = .ok (.iconst 1, 1) := by decide +kernel
theorem dX5_has_10 : decode cX5_has 10 = .ok (.goto 4, 3) := by decide +kernel
theorem dX5_has_13 : decode cX5_has 13 = .ok (.iconst 0, 1) := by decide +kernel
theorem dX5_has_14 : decode cX5_has 14 = .ok (.ireturn, 1) := by decide +kernel
theorem dX5_bits_0 : decode cX5_bits 0 = .ok (.iconst 0, 1) := by decide +kernel
theorem dX5_bits_1 : decode cX5_bits 1 = .ok (.istore_n 1, 1) := by decide +kernel
theorem dX5_bits_2 : decode cX5_bits 2 = .ok (.iconst 0, 1) := by decide +kernel
theorem dX5_bits_3 : decode cX5_bits 3 = .ok (.istore_n 2, 1) := by decide +kernel
theorem dX5_bits_4 : decode cX5_bits 4 = .ok (.iload_n 2, 1) := by decide +kernel
theorem dX5_bits_5 : decode cX5_bits 5 = .ok (.bipush 31, 2) := by decide +kernel
theorem dX5_bits_7 : decode cX5_bits 7 = .ok (.if_icmp .ge 17, 3) := by decide +kernel
theorem dX5_bits_10 : decode cX5_bits 10 = .ok (.iload_n 1, 1) := by decide +kernel
theorem dX5_bits_11 : decode cX5_bits 11 = .ok (.iload_n 0, 1) := by decide +kernel
theorem dX5_bits_12 : decode cX5_bits 12 = .ok (.iload_n 2, 1) := by decide +kernel
theorem dX5_bits_13 : decode cX5_bits 13 = .ok (.ishr, 1) := by decide +kernel
theorem dX5_bits_14 : decode cX5_bits 14 = .ok (.iconst 1, 1) := by decide +kernel
theorem dX5_bits_15 : decode cX5_bits 15 = .ok (.iand, 1) := by decide +kernel
theorem dX5_bits_16 : decode cX5_bits 16 = .ok (.iadd, 1) := by decide +kernel
theorem dX5_bits_17 : decode cX5_bits 17 = .ok (.istore_n 1, 1) := by decide +kernel
theorem dX5_bits_18 : decode cX5_bits 18 = .ok (.iinc 2 1, 3) := by decide +kernel
theorem dX5_bits_21 : decode cX5_bits 21 = .ok (.goto (-17), 3) := by decide +kernel
theorem dX5_bits_24 : decode cX5_bits 24 = .ok (.iload_n 1, 1) := by decide +kernel
theorem dX5_bits_25 : decode cX5_bits 25 = .ok (.ireturn, 1) := by decide +kernel
theorem dX5_isOne_0 : decode cX5_isOne 0 = .ok (.iload_n 1, 1) := by decide +kernel
theorem dX5_isOne_1 : decode cX5_isOne 1 = .ok (.ifCond .lt 15, 3) := by decide +kernel
theorem dX5_isOne_4 : decode cX5_isOne 4 = .ok (.iload_n 1, 1) := by decide +kernel
theorem dX5_isOne_5 : decode cX5_isOne 5 = .ok (.aload_n 0, 1) := by decide +kernel
theorem dX5_isOne_6 : decode cX5_isOne 6 = .ok (.getfield 55, 3) := by decide +kernel
theorem dX5_isOne_9 : decode cX5_isOne 9 = .ok (.if_icmp .ge 7, 3) := by decide +kernel
theorem dX5_isOne_12 : decode cX5_isOne 12 = .ok (.iconst 1, 1) := by decide +kernel
theorem dX5_isOne_13 : decode cX5_isOne 13 = .ok (.goto 4, 3) := by decide +kernel
theorem dX5_isOne_16 : decode cX5_isOne 16 = .ok (.iconst 0, 1) := by decide +kernel
theorem dX5_isOne_17 : decode cX5_isOne 17 = .ok (.ireturn, 1) := by decide +kernel
theorem dX5_letter_0 : decode cX5_letter 0 = .ok (.iload_n 1, 1) := by decide +kernel
theorem dX5_letter_1 : decode cX5_letter 1 = .ok (.iconst 0, 1) := by decide +kernel
theorem dX5_letter_2 : decode cX5_letter 2 = .ok (.sipush 255, 3) := by decide +kernel
theorem dX5_letter_5 : decode cX5_letter 5 = .ok (.invokestatic 62, 3) := by decide +kernel
theorem dX5_letter_8 : decode cX5_letter 8 = .ok (.istore_n 2, 1) := by decide +kernel
theorem dX5_letter_9 : decode cX5_letter 9 = .ok (.iload_n 2, 1) := by decide +kernel
theorem dX5_letter_10 : decode cX5_letter 10 = .ok (.ifCond .ne 15, 3) := by decide +kernel
theorem dX5_letter_13 : decode cX5_letter 13 = .ok (.aload_n 0, 1) := by decide +kernel
theorem dX5_letter_14 : decode cX5_letter 14 = .ok (.getfield 66, 3) := by decide +kernel
theorem dX5_letter_17 : decode cX5_letter 17 = .ok (.bipush 96, 2) := by decide +kernel
theorem dX5_letter_19 : decode cX5_letter 19 = .ok (.if_icmp .ne 6, 3) := by decide +kernel
theorem dX5_letter_22 : decode cX5_letter 22 = .ok (.bipush (-6), 2) := by decide +kernel
theorem dX5_letter_24 : decode cX5_letter 24 = .ok (.istore_n 2, 1) := by decide +kernel
theorem dX5_letter_25 : decode cX5_letter 25 = .ok (.iload_n 2, 1) := by decide +kernel
theorem dX5_letter_26 : decode cX5_letter 26 = .ok (.ifCond .eq 9, 3) := by decide +kernel
theorem dX5_letter_29 : decode cX5_letter 29 = .ok (.aload_n 0, 1) := by decide +kernel
theorem dX5_letter_30 : decode cX5_letter 30 = .ok (.iload_n 2, 1) := by decide +kernel
theorem dX5_letter_31 : decode cX5_letter 31 = .ok (.invokevirtual 69, 3) := by decide +kernel
theorem dX5_letter_34 : decode cX5_letter 34 = .ok (.ireturn, 1) := by decide +kernel
theorem dX5_letter_35 : decode cX5_letter 35 = .ok (.aload_n 0, 1) := by decide +kernel
theorem dX5_letter_36 : decode cX5_letter 36 = .ok (.getfield 31, 3) := by decide +kernel
theorem dX5_letter_39 : decode cX5_letter 39 = .ok (.aload_n 0, 1) := by decide +kernel
theorem dX5_letter_40 : decode cX5_letter 40 = .ok (.getfield 66, 3) := by decide +kernel
theorem dX5_letter_43 : decode cX5_letter 43 = .ok (.iload_n 1, 1) := by decide +kernel
theorem dX5_letter_44 : decode cX5_letter 44 = .ok (.iastore, 1) := by decide +kernel
theorem dX5_letter_45 : decode cX5_letter 45 = .ok (.aload_n 0, 1) := by decide +kernel
theorem dX5_letter_46 : decode cX5_letter 46 = .ok (.dup, 1) := by decide +kernel
theorem dX5_letter_47 : decode cX5_letter 47 = .ok (.getfield 66, 3) := by decide +kernel
theorem dX5_letter_50 : decode cX5_letter 50 = .ok (.iconst 1, 1) := by decide +kernel
theorem dX5_letter_51 : decode cX5_letter 51 = .ok (.iadd, 1) := by decide +kernel
theorem dX5_letter_52 : decode cX5_letter 52 = .ok (.putfield 66, 3) := by decide +kernel
theorem dX5_letter_55 : decode cX5_letter 55 = .ok (.aload_n 0, 1) := by decide +kernel
theorem dX5_letter_56 : decode cX5_letter 56 = .ok (.getfield 66, 3) := by decide +kernel
theorem dX5_letter_59 : decode cX5_letter 59 = .ok (.ireturn, 1) := by decide +kernel
theorem dX5_next_0 : decode cX5_next 0 = .ok (.aload_n 0, 1) := by decide +kernel
theorem dX5_next_1 : decode cX5_next 1 = .ok (.getfield 73, 3) := by decide +kernel
theorem dX5_next_4 : decode cX5_next 4 = .ok (.aload_n 0, 1) := by decide +kernel
theorem dX5_next_5 : decode cX5_next 5 = .ok (.getfield 66, 3) := by decide +kernel
theorem dX5_next_8 : decode cX5_next 8 = .ok (.if_icmp .ge 15, 3) := by decide +kernel
theorem dX5_next_11 : decode cX5_next 11 = .ok (.aload_n 0, 1) := by decide +kernel
theorem dX5_next_12 : decode cX5_next 12 = .ok (.getfield 31, 3) := by decide +kernel
theorem dX5_next_15 : decode cX5_next 15 = .ok (.aload_n 0, 1) := by decide +kernel
theorem dX5_next_16 : decode cX5_next 16 = .ok (.getfield 73, 3) := by decide +kernel
theorem dX5_next_19 : decode cX5_next 19 = .ok (.iaload, 1) := by decide +kernel
theorem dX5_next_20 : decode cX5_next 20 = .ok (.goto 4, 3) := by decide +kernel
theorem dX5_next_23 : decode cX5_next 23 = .ok (.iconst (-1), 1) := by decide +kernel
theorem dX5_next_24 : decode cX5_next 24 = .ok (.ireturn, 1) := by decide +kernel
theorem dX5_readsDigits_0 : decode cX5_readsDigits 0 = .ok (.iconst 0, 1) := by decide +kernel
theorem dX5_readsDigits_1 : decode cX5_readsDigits 1 = .ok (.istore_n 3, 1) := by decide +kernel
theorem dX5_readsDigits_2 : decode cX5_readsDigits 2 = .ok (.iconst 0, 1) := by decide +kernel
theorem dX5_readsDigits_3 : decode cX5_readsDigits 3 = .ok (.istore 4, 2) := by decide +kernel
theorem dX5_readsDigits_5 : decode cX5_readsDigits 5 = .ok (.iload 4, 2) := by decide +kernel
theorem dX5_readsDigits_7 : decode cX5_readsDigits 7 = .ok (.iload_n 2, 1) := by decide +kernel
theorem dX5_readsDigits_8 : decode cX5_readsDigits 8 = .ok (.if_icmp .ge 48, 3) := by decide +kernel
theorem dX5_readsDigits_11 : decode cX5_readsDigits 11 = .ok (.aload_n 0, 1) := by decide +kernel
theorem dX5_readsDigits_12 : decode cX5_readsDigits 12 = .ok (.invokevirtual 76, 3) := by decide +kernel
theorem dX5_readsDigits_15 : decode cX5_readsDigits 15 = .ok (.bipush 48, 2) := by decide +kernel
theorem dX5_readsDigits_17 : decode cX5_readsDigits 17 = .ok (.bipush 57, 2) := by decide +kernel
theorem dX5_readsDigits_19 : decode cX5_readsDigits 19 = .ok (.invokestatic 80, 3) := by decide +kernel
theorem dX5_readsDigits_22 : decode cX5_readsDigits 22 = .ok (.ifCond .ne 5, 3) := by decide +kernel
theorem dX5_readsDigits_25 : decode cX5_readsDigits 25 = .ok (.iconst 0, 1) := by decide +kernel
theorem dX5_readsDigits_26 : decode cX5_readsDigits 26 = .ok (.ireturn, 1) := by decide +kernel
theorem dX5_readsDigits_27 : decode cX5_readsDigits 27 = .ok (.bipush 10, 2) := by decide +kernel
theorem dX5_readsDigits_29 : decode cX5_readsDigits 29 = .ok (.iload_n 3, 1) := by decide +kernel
theorem dX5_readsDigits_30 : decode cX5_readsDigits 30 = .ok (.imul, 1) := by decide +kernel
theorem dX5_readsDigits_31 : decode cX5_readsDigits 31 = .ok (.aload_n 0, 1) := by decide +kernel
theorem dX5_readsDigits_32 : decode cX5_readsDigits 32 = .ok (.invokevirtual 76, 3) := by decide +kernel
theorem dX5_readsDigits_35 : decode cX5_readsDigits 35 = .ok (.iadd, 1) := by decide +kernel
theorem dX5_readsDigits_36 : decode cX5_readsDigits 36 = .ok (.bipush 48, 2) := by decide +kernel
theorem dX5_readsDigits_38 : decode cX5_readsDigits 38 = .ok (.isub, 1) := by decide +kernel
theorem dX5_readsDigits_39 : decode cX5_readsDigits 39 = .ok (.istore_n 3, 1) := by decide +kernel
theorem dX5_readsDigits_40 : decode cX5_readsDigits 40 = .ok (.aload_n 0, 1) := by decide +kernel
theorem dX5_readsDigits_41 : decode cX5_readsDigits 41 = .ok (.dup, 1) := by decide +kernel
theorem dX5_readsDigits_42 : decode cX5_readsDigits 42 = .ok (.getfield 73, 3) := by decide +kernel
theorem dX5_readsDigits_45 : decode cX5_readsDigits 45 = .ok (.iconst 1, 1) := by decide +kernel
theorem dX5_readsDigits_46 : decode cX5_readsDigits 46 = .ok (.iadd, 1) := by decide +kernel
theorem dX5_readsDigits_47 : decode cX5_readsDigits 47 = .ok (.putfield 73, 3) := by decide +kernel
theorem dX5_readsDigits_50 : decode cX5_readsDigits 50 = .ok (.iinc 4 1, 3) := by decide +kernel
theorem dX5_readsDigits_53 : decode cX5_readsDigits 53 = .ok (.goto (-48), 3) := by decide +kernel
theorem dX5_readsDigits_56 : decode cX5_readsDigits 56 = .ok (.aload_n 0, 1) := by decide +kernel
theorem dX5_readsDigits_57 : decode cX5_readsDigits 57 = .ok (.getfield 40, 3) := by decide +kernel
theorem dX5_readsDigits_60 : decode cX5_readsDigits 60 = .ok (.iload_n 1, 1) := by decide +kernel
theorem dX5_readsDigits_61 : decode cX5_readsDigits 61 = .ok (.iload_n 3, 1) := by decide +kernel
theorem dX5_readsDigits_62 : decode cX5_readsDigits 62 = .ok (.iastore, 1) := by decide +kernel
theorem dX5_readsDigits_63 : decode cX5_readsDigits 63 = .ok (.iconst 1, 1) := by decide +kernel
theorem dX5_readsDigits_64 : decode cX5_readsDigits 64 = .ok (.ireturn, 1) := by decide +kernel
theorem dX5_kindOf_0 : decode cX5_kindOf 0 = .ok (.iload_n 0, 1) := by decide +kernel
theorem dX5_kindOf_1 : decode cX5_kindOf 1 = .ok (.bipush 97, 2) := by decide +kernel
theorem dX5_kindOf_3 : decode cX5_kindOf 3 = .ok (.if_icmp .ne 7, 3) := by decide +kernel
theorem dX5_kindOf_6 : decode cX5_kindOf 6 = .ok (.iconst 0, 1) := by decide +kernel
theorem dX5_kindOf_7 : decode cX5_kindOf 7 = .ok (.goto 54, 3) := by decide +kernel
theorem dX5_kindOf_10 : decode cX5_kindOf 10 = .ok (.iload_n 0, 1) := by decide +kernel
theorem dX5_kindOf_11 : decode cX5_kindOf 11 = .ok (.bipush 112, 2) := by decide +kernel
theorem dX5_kindOf_13 : decode cX5_kindOf 13 = .ok (.if_icmp .ne 7, 3) := by decide +kernel
theorem dX5_kindOf_16 : decode cX5_kindOf 16 = .ok (.iconst 1, 1) := by decide +kernel
theorem dX5_kindOf_17 : decode cX5_kindOf 17 = .ok (.goto 44, 3) := by decide +kernel
theorem dX5_kindOf_20 : decode cX5_kindOf 20 = .ok (.iload_n 0, 1) := by decide +kernel
theorem dX5_kindOf_21 : decode cX5_kindOf 21 = .ok (.bipush 103, 2) := by decide +kernel
theorem dX5_kindOf_23 : decode cX5_kindOf 23 = .ok (.if_icmp .ne 7, 3) := by decide +kernel
theorem dX5_kindOf_26 : decode cX5_kindOf 26 = .ok (.iconst 2, 1) := by decide +kernel
theorem dX5_kindOf_27 : decode cX5_kindOf 27 = .ok (.goto 34, 3) := by decide +kernel
theorem dX5_kindOf_30 : decode cX5_kindOf 30 = .ok (.iload_n 0, 1) := by decide +kernel
theorem dX5_kindOf_31 : decode cX5_kindOf 31 = .ok (.bipush 116, 2) := by decide +kernel
theorem dX5_kindOf_33 : decode cX5_kindOf 33 = .ok (.if_icmp .ne 7, 3) := by decide +kernel
theorem dX5_kindOf_36 : decode cX5_kindOf 36 = .ok (.iconst 3, 1) := by decide +kernel
theorem dX5_kindOf_37 : decode cX5_kindOf 37 = .ok (.goto 24, 3) := by decide +kernel
theorem dX5_kindOf_40 : decode cX5_kindOf 40 = .ok (.iload_n 0, 1) := by decide +kernel
theorem dX5_kindOf_41 : decode cX5_kindOf 41 = .ok (.bipush 102, 2) := by decide +kernel
theorem dX5_kindOf_43 : decode cX5_kindOf 43 = .ok (.if_icmp .ne 7, 3) := by decide +kernel
theorem dX5_kindOf_46 : decode cX5_kindOf 46 = .ok (.iconst 4, 1) := by decide +kernel
theorem dX5_kindOf_47 : decode cX5_kindOf 47 = .ok (.goto 14, 3) := by decide +kernel
theorem dX5_kindOf_50 : decode cX5_kindOf 50 = .ok (.iload_n 0, 1) := by decide +kernel
theorem dX5_kindOf_51 : decode cX5_kindOf 51 = .ok (.bipush 100, 2) := by decide +kernel
theorem dX5_kindOf_53 : decode cX5_kindOf 53 = .ok (.if_icmp .ne 7, 3) := by decide +kernel
theorem dX5_kindOf_56 : decode cX5_kindOf 56 = .ok (.iconst 5, 1) := by decide +kernel
theorem dX5_kindOf_57 : decode cX5_kindOf 57 = .ok (.goto 4, 3) := by decide +kernel
theorem dX5_kindOf_60 : decode cX5_kindOf 60 = .ok (.iconst (-1), 1) := by decide +kernel
theorem dX5_kindOf_61 : decode cX5_kindOf 61 = .ok (.ireturn, 1) := by decide +kernel
theorem dX5_readsWriter_0 : decode cX5_readsWriter 0 = .ok (.aload_n 0, 1) := by decide +kernel
theorem dX5_readsWriter_1 : decode cX5_readsWriter 1 = .ok (.getfield 40, 3) := by decide +kernel
theorem dX5_readsWriter_4 : decode cX5_readsWriter 4 = .ok (.iload_n 1, 1) := by decide +kernel
theorem dX5_readsWriter_5 : decode cX5_readsWriter 5 = .ok (.aload_n 0, 1) := by decide +kernel
theorem dX5_readsWriter_6 : decode cX5_readsWriter 6 = .ok (.invokevirtual 76, 3) := by decide +kernel
theorem dX5_readsWriter_9 : decode cX5_readsWriter 9 = .ok (.invokestatic 84, 3) := by decide +kernel
theorem dX5_readsWriter_12 : decode cX5_readsWriter 12 = .ok (.iastore, 1) := by decide +kernel
theorem dX5_readsWriter_13 : decode cX5_readsWriter 13 = .ok (.aload_n 0, 1) := by decide +kernel
theorem dX5_readsWriter_14 : decode cX5_readsWriter 14 = .ok (.getfield 40, 3) := by decide +kernel
theorem dX5_readsWriter_17 : decode cX5_readsWriter 17 = .ok (.iload_n 1, 1) := by decide +kernel
theorem dX5_readsWriter_18 : decode cX5_readsWriter 18 = .ok (.iaload, 1) := by decide +kernel
theorem dX5_readsWriter_19 : decode cX5_readsWriter 19 = .ok (.ifCond .ge 5, 3) := by decide +kernel
theorem dX5_readsWriter_22 : decode cX5_readsWriter 22 = .ok (.iconst 0, 1) := by decide +kernel
theorem dX5_readsWriter_23 : decode cX5_readsWriter 23 = .ok (.ireturn, 1) := by decide +kernel
theorem dX5_readsWriter_24 : decode cX5_readsWriter 24 = .ok (.aload_n 0, 1) := by decide +kernel
theorem dX5_readsWriter_25 : decode cX5_readsWriter 25 = .ok (.dup, 1) := by decide +kernel
theorem dX5_readsWriter_26 : decode cX5_readsWriter 26 = .ok (.getfield 73, 3) := by decide +kernel
theorem dX5_readsWriter_29 : decode cX5_readsWriter 29 = .ok (.iconst 1, 1) := by decide +kernel
theorem dX5_readsWriter_30 : decode cX5_readsWriter 30 = .ok (.iadd, 1) := by decide +kernel
theorem dX5_readsWriter_31 : decode cX5_readsWriter 31 = .ok (.putfield 73, 3) := by decide +kernel
theorem dX5_readsWriter_34 : decode cX5_readsWriter 34 = .ok (.aload_n 0, 1) := by decide +kernel
theorem dX5_readsWriter_35 : decode cX5_readsWriter 35 = .ok (.iload_n 1, 1) := by decide +kernel
theorem dX5_readsWriter_36 : decode cX5_readsWriter 36 = .ok (.iconst 1, 1) := by decide +kernel
theorem dX5_readsWriter_37 : decode cX5_readsWriter 37 = .ok (.iadd, 1) := by decide +kernel
theorem dX5_readsWriter_38 : decode cX5_readsWriter 38 = .ok (.iconst 1, 1) := by decide +kernel
theorem dX5_readsWriter_39 : decode cX5_readsWriter 39 = .ok (.invokevirtual 87, 3) := by decide +kernel
theorem dX5_readsWriter_42 : decode cX5_readsWriter 42 = .ok (.ifCond .eq 18, 3) := by decide +kernel
theorem dX5_readsWriter_45 : decode cX5_readsWriter 45 = .ok (.aload_n 0, 1) := by decide +kernel
theorem dX5_readsWriter_46 : decode cX5_readsWriter 46 = .ok (.iload_n 1, 1) := by decide +kernel
theorem dX5_readsWriter_47 : decode cX5_readsWriter 47 = .ok (.iconst 2, 1) := by decide +kernel
theorem dX5_readsWriter_48 : decode cX5_readsWriter 48 = .ok (.iadd, 1) := by decide +kernel
theorem dX5_readsWriter_49 : decode cX5_readsWriter 49 = .ok (.iconst 1, 1) := by decide +kernel
theorem dX5_readsWriter_50 : decode cX5_readsWriter 50 = .ok (.invokevirtual 87, 3) := by decide +kernel
theorem dX5_readsWriter_53 : decode cX5_readsWriter 53 = .ok (.ifCond .eq 7, 3) := by decide +kernel
theorem dX5_readsWriter_56 : decode cX5_readsWriter 56 = .ok (.iconst 1, 1) := by decide +kernel
theorem dX5_readsWriter_57 : decode cX5_readsWriter 57 = .ok (.goto 4, 3) := by decide +kernel
theorem dX5_readsWriter_60 : decode cX5_readsWriter 60 = .ok (.iconst 0, 1) := by decide +kernel
theorem dX5_readsWriter_61 : decode cX5_readsWriter 61 = .ok (.ireturn, 1) := by decide +kernel
theorem dX5_readsAll_0 : decode cX5_readsAll 0 = .ok (.iload_n 1, 1) := by decide +kernel
theorem dX5_readsAll_1 : decode cX5_readsAll 1 = .ok (.lookupswitch 89 #[(102, 56), (115, 49), (119, 43), (121, 82)], 43) := by decide +kernel
theorem dX5_readsAll_44 : decode cX5_readsAll 44 = .ok (.aload_n 0, 1) := by decide +kernel
theorem dX5_readsAll_45 : decode cX5_readsAll 45 = .ok (.iload_n 2, 1) := by decide +kernel
theorem dX5_readsAll_46 : decode cX5_readsAll 46 = .ok (.invokevirtual 91, 3) := by decide +kernel
theorem dX5_readsAll_49 : decode cX5_readsAll 49 = .ok (.ireturn, 1) := by decide +kernel
theorem dX5_readsAll_50 : decode cX5_readsAll 50 = .ok (.aload_n 0, 1) := by decide +kernel
theorem dX5_readsAll_51 : decode cX5_readsAll 51 = .ok (.iload_n 2, 1) := by decide +kernel
theorem dX5_readsAll_52 : decode cX5_readsAll 52 = .ok (.iconst 1, 1) := by decide +kernel
theorem dX5_readsAll_53 : decode cX5_readsAll 53 = .ok (.invokevirtual 87, 3) := by decide +kernel
theorem dX5_readsAll_56 : decode cX5_readsAll 56 = .ok (.ireturn, 1) := by decide +kernel
theorem dX5_readsAll_57 : decode cX5_readsAll 57 = .ok (.aload_n 0, 1) := by decide +kernel
theorem dX5_readsAll_58 : decode cX5_readsAll 58 = .ok (.iload_n 2, 1) := by decide +kernel
theorem dX5_readsAll_59 : decode cX5_readsAll 59 = .ok (.iconst 1, 1) := by decide +kernel
theorem dX5_readsAll_60 : decode cX5_readsAll 60 = .ok (.invokevirtual 87, 3) := by decide +kernel
theorem dX5_readsAll_63 : decode cX5_readsAll 63 = .ok (.ifCond .eq 18, 3) := by decide +kernel
theorem dX5_readsAll_66 : decode cX5_readsAll 66 = .ok (.aload_n 0, 1) := by decide +kernel
theorem dX5_readsAll_67 : decode cX5_readsAll 67 = .ok (.iload_n 2, 1) := by decide +kernel
theorem dX5_readsAll_68 : decode cX5_readsAll 68 = .ok (.iconst 1, 1) := by decide +kernel
theorem dX5_readsAll_69 : decode cX5_readsAll 69 = .ok (.iadd, 1) := by decide +kernel
theorem dX5_readsAll_70 : decode cX5_readsAll 70 = .ok (.iconst 2, 1) := by decide +kernel
theorem dX5_readsAll_71 : decode cX5_readsAll 71 = .ok (.invokevirtual 87, 3) := by decide +kernel
theorem dX5_readsAll_74 : decode cX5_readsAll 74 = .ok (.ifCond .eq 7, 3) := by decide +kernel
theorem dX5_readsAll_77 : decode cX5_readsAll 77 = .ok (.iconst 1, 1) := by decide +kernel
theorem dX5_readsAll_78 : decode cX5_readsAll 78 = .ok (.goto 4, 3) := by decide +kernel
theorem dX5_readsAll_81 : decode cX5_readsAll 81 = .ok (.iconst 0, 1) := by decide +kernel
theorem dX5_readsAll_82 : decode cX5_readsAll 82 = .ok (.ireturn, 1) := by decide +kernel
theorem dX5_readsAll_83 : decode cX5_readsAll 83 = .ok (.aload_n 0, 1) := by decide +kernel
theorem dX5_readsAll_84 : decode cX5_readsAll 84 = .ok (.iload_n 2, 1) := by decide +kernel
theorem dX5_readsAll_85 : decode cX5_readsAll 85 = .ok (.iconst 2, 1) := by decide +kernel
theorem dX5_readsAll_86 : decode cX5_readsAll 86 = .ok (.invokevirtual 87, 3) := by decide +kernel
theorem dX5_readsAll_89 : decode cX5_readsAll 89 = .ok (.ireturn, 1) := by decide +kernel
theorem dX5_readsAll_90 : decode cX5_readsAll 90 = .ok (.aload_n 0, 1) := by decide +kernel
theorem dX5_readsAll_91 : decode cX5_readsAll 91 = .ok (.iload_n 2, 1) := by decide +kernel
theorem dX5_readsAll_92 : decode cX5_readsAll 92 = .ok (.iconst 1, 1) := by decide +kernel
theorem dX5_readsAll_93 : decode cX5_readsAll 93 = .ok (.invokevirtual 87, 3) := by decide +kernel
theorem dX5_readsAll_96 : decode cX5_readsAll 96 = .ok (.ifCond .eq 18, 3) := by decide +kernel
theorem dX5_readsAll_99 : decode cX5_readsAll 99 = .ok (.aload_n 0, 1) := by decide +kernel
theorem dX5_readsAll_100 : decode cX5_readsAll 100 = .ok (.iload_n 2, 1) := by decide +kernel
theorem dX5_readsAll_101 : decode cX5_readsAll 101 = .ok (.iconst 1, 1) := by decide +kernel
theorem dX5_readsAll_102 : decode cX5_readsAll 102 = .ok (.iadd, 1) := by decide +kernel
theorem dX5_readsAll_103 : decode cX5_readsAll 103 = .ok (.iconst 1, 1) := by decide +kernel
theorem dX5_readsAll_104 : decode cX5_readsAll 104 = .ok (.invokevirtual 87, 3) := by decide +kernel
theorem dX5_readsAll_107 : decode cX5_readsAll 107 = .ok (.ifCond .eq 7, 3) := by decide +kernel
theorem dX5_readsAll_110 : decode cX5_readsAll 110 = .ok (.iconst 1, 1) := by decide +kernel
theorem dX5_readsAll_111 : decode cX5_readsAll 111 = .ok (.goto 4, 3) := by decide +kernel
theorem dX5_readsAll_114 : decode cX5_readsAll 114 = .ok (.iconst 0, 1) := by decide +kernel
theorem dX5_readsAll_115 : decode cX5_readsAll 115 = .ok (.ireturn, 1) := by decide +kernel
theorem dX5_statement_0 : decode cX5_statement 0 = .ok (.aload_n 0, 1) := by decide +kernel
theorem dX5_statement_1 : decode cX5_statement 1 = .ok (.invokevirtual 76, 3) := by decide +kernel
theorem dX5_statement_4 : decode cX5_statement 4 = .ok (.istore_n 1, 1) := by decide +kernel
theorem dX5_statement_5 : decode cX5_statement 5 = .ok (.iload_n 1, 1) := by decide +kernel
theorem dX5_statement_6 : decode cX5_statement 6 = .ok (.bipush 119, 2) := by decide +kernel
theorem dX5_statement_8 : decode cX5_statement 8 = .ok (.if_icmp .eq 35, 3) := by decide +kernel
theorem dX5_statement_11 : decode cX5_statement 11 = .ok (.iload_n 1, 1) := by decide +kernel
theorem dX5_statement_12 : decode cX5_statement 12 = .ok (.bipush 120, 2) := by decide +kernel
theorem dX5_statement_14 : decode cX5_statement 14 = .ok (.if_icmp .eq 29, 3) := by decide +kernel
theorem dX5_statement_17 : decode cX5_statement 17 = .ok (.iload_n 1, 1) := by decide +kernel
theorem dX5_statement_18 : decode cX5_statement 18 = .ok (.bipush 115, 2) := by decide +kernel
theorem dX5_statement_20 : decode cX5_statement 20 = .ok (.if_icmp .eq 23, 3) := by decide +kernel
theorem dX5_statement_23 : decode cX5_statement 23 = .ok (.iload_n 1, 1) := by decide +kernel
theorem dX5_statement_24 : decode cX5_statement 24 = .ok (.bipush 116, 2) := by decide +kernel
theorem dX5_statement_26 : decode cX5_statement 26 = .ok (.if_icmp .eq 17, 3) := by decide +kernel
theorem dX5_statement_29 : decode cX5_statement 29 = .ok (.iload_n 1, 1) := by decide +kernel
theorem dX5_statement_30 : decode cX5_statement 30 = .ok (.bipush 102, 2) := by decide +kernel
theorem dX5_statement_32 : decode cX5_statement 32 = .ok (.if_icmp .eq 11, 3) := by decide +kernel
theorem dX5_statement_35 : decode cX5_statement 35 = .ok (.iload_n 1, 1) := by decide +kernel
theorem dX5_statement_36 : decode cX5_statement 36 = .ok (.bipush 121, 2) := by decide +kernel
theorem dX5_statement_38 : decode cX5_statement 38 = .ok (.if_icmp .eq 5, 3) := by decide +kernel
theorem dX5_statement_41 : decode cX5_statement 41 = .ok (.iconst 0, 1) := by decide +kernel
theorem dX5_statement_42 : decode cX5_statement 42 = .ok (.ireturn, 1) := by decide +kernel
theorem dX5_statement_43 : decode cX5_statement 43 = .ok (.aload_n 0, 1) := by decide +kernel
theorem dX5_statement_44 : decode cX5_statement 44 = .ok (.getfield 34, 3) := by decide +kernel
theorem dX5_statement_47 : decode cX5_statement 47 = .ok (.aload_n 0, 1) := by decide +kernel
theorem dX5_statement_48 : decode cX5_statement 48 = .ok (.getfield 95, 3) := by decide +kernel
theorem dX5_statement_51 : decode cX5_statement 51 = .ok (.iload_n 1, 1) := by decide +kernel
theorem dX5_statement_52 : decode cX5_statement 52 = .ok (.iastore, 1) := by decide +kernel
theorem dX5_statement_53 : decode cX5_statement 53 = .ok (.aload_n 0, 1) := by decide +kernel
theorem dX5_statement_54 : decode cX5_statement 54 = .ok (.getfield 37, 3) := by decide +kernel
theorem dX5_statement_57 : decode cX5_statement 57 = .ok (.aload_n 0, 1) := by decide +kernel
theorem dX5_statement_58 : decode cX5_statement 58 = .ok (.getfield 95, 3) := by decide +kernel
theorem dX5_statement_61 : decode cX5_statement 61 = .ok (.aload_n 0, 1) := by decide +kernel
theorem dX5_statement_62 : decode cX5_statement 62 = .ok (.getfield 73, 3) := by decide +kernel
theorem dX5_statement_65 : decode cX5_statement 65 = .ok (.iastore, 1) := by decide +kernel
theorem dX5_statement_66 : decode cX5_statement 66 = .ok (.aload_n 0, 1) := by decide +kernel
theorem dX5_statement_67 : decode cX5_statement 67 = .ok (.dup, 1) := by decide +kernel
theorem dX5_statement_68 : decode cX5_statement 68 = .ok (.getfield 73, 3) := by decide +kernel
theorem dX5_statement_71 : decode cX5_statement 71 = .ok (.iconst 1, 1) := by decide +kernel
theorem dX5_statement_72 : decode cX5_statement 72 = .ok (.iadd, 1) := by decide +kernel
theorem dX5_statement_73 : decode cX5_statement 73 = .ok (.putfield 73, 3) := by decide +kernel
theorem dX5_statement_76 : decode cX5_statement 76 = .ok (.aload_n 0, 1) := by decide +kernel
theorem dX5_statement_77 : decode cX5_statement 77 = .ok (.iload_n 1, 1) := by decide +kernel
theorem dX5_statement_78 : decode cX5_statement 78 = .ok (.iconst 3, 1) := by decide +kernel
theorem dX5_statement_79 : decode cX5_statement 79 = .ok (.aload_n 0, 1) := by decide +kernel
theorem dX5_statement_80 : decode cX5_statement 80 = .ok (.getfield 95, 3) := by decide +kernel
theorem dX5_statement_83 : decode cX5_statement 83 = .ok (.imul, 1) := by decide +kernel
theorem dX5_statement_84 : decode cX5_statement 84 = .ok (.invokevirtual 98, 3) := by decide +kernel
theorem dX5_statement_87 : decode cX5_statement 87 = .ok (.ifCond .eq 12, 3) := by decide +kernel
theorem dX5_statement_90 : decode cX5_statement 90 = .ok (.aload_n 0, 1) := by decide +kernel
theorem dX5_statement_91 : decode cX5_statement 91 = .ok (.invokevirtual 76, 3) := by decide +kernel
theorem dX5_statement_94 : decode cX5_statement 94 = .ok (.bipush 59, 2) := by decide +kernel
theorem dX5_statement_96 : decode cX5_statement 96 = .ok (.if_icmp .eq 5, 3) := by decide +kernel
theorem dX5_statement_99 : decode cX5_statement 99 = .ok (.iconst 0, 1) := by decide +kernel
theorem dX5_statement_100 : decode cX5_statement 100 = .ok (.ireturn, 1) := by decide +kernel
theorem dX5_statement_101 : decode cX5_statement 101 = .ok (.aload_n 0, 1) := by decide +kernel
theorem dX5_statement_102 : decode cX5_statement 102 = .ok (.dup, 1) := by decide +kernel
theorem dX5_statement_103 : decode cX5_statement 103 = .ok (.getfield 73, 3) := by decide +kernel
theorem dX5_statement_106 : decode cX5_statement 106 = .ok (.iconst 1, 1) := by decide +kernel
theorem dX5_statement_107 : decode cX5_statement 107 = .ok (.iadd, 1) := by decide +kernel
theorem dX5_statement_108 : decode cX5_statement 108 = .ok (.putfield 73, 3) := by decide +kernel
theorem dX5_statement_111 : decode cX5_statement 111 = .ok (.iconst 1, 1) := by decide +kernel
theorem dX5_statement_112 : decode cX5_statement 112 = .ok (.ireturn, 1) := by decide +kernel
theorem dX5_comesWriter_0 : decode cX5_comesWriter 0 = .ok (.aload_n 0, 1) := by decide +kernel
theorem dX5_comesWriter_1 : decode cX5_comesWriter 1 = .ok (.getfield 55, 3) := by decide +kernel
theorem dX5_comesWriter_4 : decode cX5_comesWriter 4 = .ok (.bipush 7, 2) := by decide +kernel
theorem dX5_comesWriter_6 : decode cX5_comesWriter 6 = .ok (.if_icmp .ne 5, 3) := by decide +kernel
theorem dX5_comesWriter_9 : decode cX5_comesWriter 9 = .ok (.iconst 0, 1) := by decide +kernel
theorem dX5_comesWriter_10 : decode cX5_comesWriter 10 = .ok (.ireturn, 1) := by decide +kernel
theorem dX5_comesWriter_11 : decode cX5_comesWriter 11 = .ok (.aload_n 0, 1) := by decide +kernel
theorem dX5_comesWriter_12 : decode cX5_comesWriter 12 = .ok (.getfield 13, 3) := by decide +kernel
theorem dX5_comesWriter_15 : decode cX5_comesWriter 15 = .ok (.aload_n 0, 1) := by decide +kernel
theorem dX5_comesWriter_16 : decode cX5_comesWriter 16 = .ok (.getfield 55, 3) := by decide +kernel
theorem dX5_comesWriter_19 : decode cX5_comesWriter 19 = .ok (.iload_n 1, 1) := by decide +kernel
theorem dX5_comesWriter_20 : decode cX5_comesWriter 20 = .ok (.iastore, 1) := by decide +kernel
theorem dX5_comesWriter_21 : decode cX5_comesWriter 21 = .ok (.aload_n 0, 1) := by decide +kernel
theorem dX5_comesWriter_22 : decode cX5_comesWriter 22 = .ok (.getfield 16, 3) := by decide +kernel
theorem dX5_comesWriter_25 : decode cX5_comesWriter 25 = .ok (.aload_n 0, 1) := by decide +kernel
theorem dX5_comesWriter_26 : decode cX5_comesWriter 26 = .ok (.getfield 55, 3) := by decide +kernel
theorem dX5_comesWriter_29 : decode cX5_comesWriter 29 = .ok (.iload_n 2, 1) := by decide +kernel
theorem dX5_comesWriter_30 : decode cX5_comesWriter 30 = .ok (.iastore, 1) := by decide +kernel
theorem dX5_comesWriter_31 : decode cX5_comesWriter 31 = .ok (.aload_n 0, 1) := by decide +kernel
theorem dX5_comesWriter_32 : decode cX5_comesWriter 32 = .ok (.getfield 19, 3) := by decide +kernel
theorem dX5_comesWriter_35 : decode cX5_comesWriter 35 = .ok (.aload_n 0, 1) := by decide +kernel
theorem dX5_comesWriter_36 : decode cX5_comesWriter 36 = .ok (.getfield 55, 3) := by decide +kernel
theorem dX5_comesWriter_39 : decode cX5_comesWriter 39 = .ok (.iload_n 3, 1) := by decide +kernel
theorem dX5_comesWriter_40 : decode cX5_comesWriter 40 = .ok (.iastore, 1) := by decide +kernel
theorem dX5_comesWriter_41 : decode cX5_comesWriter 41 = .ok (.aload_n 0, 1) := by decide +kernel
theorem dX5_comesWriter_42 : decode cX5_comesWriter 42 = .ok (.getfield 22, 3) := by decide +kernel
theorem dX5_comesWriter_45 : decode cX5_comesWriter 45 = .ok (.aload_n 0, 1) := by decide +kernel
theorem dX5_comesWriter_46 : decode cX5_comesWriter 46 = .ok (.getfield 55, 3) := by decide +kernel
theorem dX5_comesWriter_49 : decode cX5_comesWriter 49 = .ok (.bipush 50, 2) := by decide +kernel
theorem dX5_comesWriter_51 : decode cX5_comesWriter 51 = .ok (.iastore, 1) := by decide +kernel
theorem dX5_comesWriter_52 : decode cX5_comesWriter 52 = .ok (.aload_n 0, 1) := by decide +kernel
theorem dX5_comesWriter_53 : decode cX5_comesWriter 53 = .ok (.getfield 25, 3) := by decide +kernel
theorem dX5_comesWriter_56 : decode cX5_comesWriter 56 = .ok (.aload_n 0, 1) := by decide +kernel
theorem dX5_comesWriter_57 : decode cX5_comesWriter 57 = .ok (.getfield 55, 3) := by decide +kernel
theorem dX5_comesWriter_60 : decode cX5_comesWriter 60 = .ok (.iconst 0, 1) := by decide +kernel
theorem dX5_comesWriter_61 : decode cX5_comesWriter 61 = .ok (.iastore, 1) := by decide +kernel
theorem dX5_comesWriter_62 : decode cX5_comesWriter 62 = .ok (.aload_n 0, 1) := by decide +kernel
theorem dX5_comesWriter_63 : decode cX5_comesWriter 63 = .ok (.getfield 28, 3) := by decide +kernel
theorem dX5_comesWriter_66 : decode cX5_comesWriter 66 = .ok (.aload_n 0, 1) := by decide +kernel
theorem dX5_comesWriter_67 : decode cX5_comesWriter 67 = .ok (.getfield 55, 3) := by decide +kernel
theorem dX5_comesWriter_70 : decode cX5_comesWriter 70 = .ok (.aload_n 0, 1) := by decide +kernel
theorem dX5_comesWriter_71 : decode cX5_comesWriter 71 = .ok (.getfield 55, 3) := by decide +kernel
theorem dX5_comesWriter_74 : decode cX5_comesWriter 74 = .ok (.iastore, 1) := by decide +kernel
theorem dX5_comesWriter_75 : decode cX5_comesWriter 75 = .ok (.aload_n 0, 1) := by decide +kernel
theorem dX5_comesWriter_76 : decode cX5_comesWriter 76 = .ok (.dup, 1) := by decide +kernel
theorem dX5_comesWriter_77 : decode cX5_comesWriter 77 = .ok (.getfield 55, 3) := by decide +kernel
theorem dX5_comesWriter_80 : decode cX5_comesWriter 80 = .ok (.iconst 1, 1) := by decide +kernel
theorem dX5_comesWriter_81 : decode cX5_comesWriter 81 = .ok (.iadd, 1) := by decide +kernel
theorem dX5_comesWriter_82 : decode cX5_comesWriter 82 = .ok (.putfield 55, 3) := by decide +kernel
theorem dX5_comesWriter_85 : decode cX5_comesWriter 85 = .ok (.iconst 1, 1) := by decide +kernel
theorem dX5_comesWriter_86 : decode cX5_comesWriter 86 = .ok (.ireturn, 1) := by decide +kernel
theorem dX5_comesYears_0 : decode cX5_comesYears 0 = .ok (.iload_n 1, 1) := by decide +kernel
theorem dX5_comesYears_1 : decode cX5_comesYears 1 = .ok (.iconst 1, 1) := by decide +kernel
theorem dX5_comesYears_2 : decode cX5_comesYears 2 = .ok (.bipush 60, 2) := by decide +kernel
theorem dX5_comesYears_4 : decode cX5_comesYears 4 = .ok (.invokestatic 80, 3) := by decide +kernel
theorem dX5_comesYears_7 : decode cX5_comesYears 7 = .ok (.ifCond .eq 15, 3) := by decide +kernel
theorem dX5_comesYears_10 : decode cX5_comesYears 10 = .ok (.aload_n 0, 1) := by decide +kernel
theorem dX5_comesYears_11 : decode cX5_comesYears 11 = .ok (.getfield 101, 3) := by decide +kernel
theorem dX5_comesYears_14 : decode cX5_comesYears 14 = .ok (.iload_n 1, 1) := by decide +kernel
theorem dX5_comesYears_15 : decode cX5_comesYears 15 = .ok (.iadd, 1) := by decide +kernel
theorem dX5_comesYears_16 : decode cX5_comesYears 16 = .ok (.sipush 999, 3) := by decide +kernel
theorem dX5_comesYears_19 : decode cX5_comesYears 19 = .ok (.if_icmp .le 5, 3) := by decide +kernel
theorem dX5_comesYears_22 : decode cX5_comesYears 22 = .ok (.iconst 0, 1) := by decide +kernel
theorem dX5_comesYears_23 : decode cX5_comesYears 23 = .ok (.ireturn, 1) := by decide +kernel
theorem dX5_comesYears_24 : decode cX5_comesYears 24 = .ok (.aload_n 0, 1) := by decide +kernel
theorem dX5_comesYears_25 : decode cX5_comesYears 25 = .ok (.iload_n 1, 1) := by decide +kernel
theorem dX5_comesYears_26 : decode cX5_comesYears 26 = .ok (.invokevirtual 104, 3) := by decide +kernel
theorem dX5_comesYears_29 : decode cX5_comesYears 29 = .ok (.iconst 1, 1) := by decide +kernel
theorem dX5_comesYears_30 : decode cX5_comesYears 30 = .ok (.ireturn, 1) := by decide +kernel
theorem dX5_comesOf_0 : decode cX5_comesOf 0 = .ok (.aload_n 0, 1) := by decide +kernel
theorem dX5_comesOf_1 : decode cX5_comesOf 1 = .ok (.iload_n 2, 1) := by decide +kernel
theorem dX5_comesOf_2 : decode cX5_comesOf 2 = .ok (.invokevirtual 108, 3) := by decide +kernel
theorem dX5_comesOf_5 : decode cX5_comesOf 5 = .ok (.ifCond .ne 5, 3) := by decide +kernel
theorem dX5_comesOf_8 : decode cX5_comesOf 8 = .ok (.iconst 0, 1) := by decide +kernel
theorem dX5_comesOf_9 : decode cX5_comesOf 9 = .ok (.ireturn, 1) := by decide +kernel
theorem dX5_comesOf_10 : decode cX5_comesOf 10 = .ok (.iload_n 1, 1) := by decide +kernel
theorem dX5_comesOf_11 : decode cX5_comesOf 11 = .ok (.bipush 115, 2) := by decide +kernel
theorem dX5_comesOf_13 : decode cX5_comesOf 13 = .ok (.if_icmp .ne 20, 3) := by decide +kernel
theorem dX5_comesOf_16 : decode cX5_comesOf 16 = .ok (.aload_n 0, 1) := by decide +kernel
theorem dX5_comesOf_17 : decode cX5_comesOf 17 = .ok (.getfield 25, 3) := by decide +kernel
theorem dX5_comesOf_20 : decode cX5_comesOf 20 = .ok (.iload_n 2, 1) := by decide +kernel
theorem dX5_comesOf_21 : decode cX5_comesOf 21 = .ok (.iconst 1, 1) := by decide +kernel
theorem dX5_comesOf_22 : decode cX5_comesOf 22 = .ok (.aload_n 0, 1) := by decide +kernel
theorem dX5_comesOf_23 : decode cX5_comesOf 23 = .ok (.getfield 25, 3) := by decide +kernel
theorem dX5_comesOf_26 : decode cX5_comesOf 26 = .ok (.iload_n 2, 1) := by decide +kernel
theorem dX5_comesOf_27 : decode cX5_comesOf 27 = .ok (.iaload, 1) := by decide +kernel
theorem dX5_comesOf_28 : decode cX5_comesOf 28 = .ok (.isub, 1) := by decide +kernel
theorem dX5_comesOf_29 : decode cX5_comesOf 29 = .ok (.iastore, 1) := by decide +kernel
theorem dX5_comesOf_30 : decode cX5_comesOf 30 = .ok (.goto 26, 3) := by decide +kernel
theorem dX5_comesOf_33 : decode cX5_comesOf 33 = .ok (.iload_n 1, 1) := by decide +kernel
theorem dX5_comesOf_34 : decode cX5_comesOf 34 = .ok (.bipush 116, 2) := by decide +kernel
theorem dX5_comesOf_36 : decode cX5_comesOf 36 = .ok (.if_icmp .ne 13, 3) := by decide +kernel
theorem dX5_comesOf_39 : decode cX5_comesOf 39 = .ok (.aload_n 0, 1) := by decide +kernel
theorem dX5_comesOf_40 : decode cX5_comesOf 40 = .ok (.getfield 19, 3) := by decide +kernel
theorem dX5_comesOf_43 : decode cX5_comesOf 43 = .ok (.iload_n 2, 1) := by decide +kernel
theorem dX5_comesOf_44 : decode cX5_comesOf 44 = .ok (.iload_n 3, 1) := by decide +kernel
theorem dX5_comesOf_45 : decode cX5_comesOf 45 = .ok (.iastore, 1) := by decide +kernel
theorem dX5_comesOf_46 : decode cX5_comesOf 46 = .ok (.goto 10, 3) := by decide +kernel
theorem dX5_comesOf_49 : decode cX5_comesOf 49 = .ok (.aload_n 0, 1) := by decide +kernel
theorem dX5_comesOf_50 : decode cX5_comesOf 50 = .ok (.getfield 22, 3) := by decide +kernel
theorem dX5_comesOf_53 : decode cX5_comesOf 53 = .ok (.iload_n 2, 1) := by decide +kernel
theorem dX5_comesOf_54 : decode cX5_comesOf 54 = .ok (.iload_n 3, 1) := by decide +kernel
theorem dX5_comesOf_55 : decode cX5_comesOf 55 = .ok (.iastore, 1) := by decide +kernel
theorem dX5_comesOf_56 : decode cX5_comesOf 56 = .ok (.iconst 1, 1) := by decide +kernel
theorem dX5_comesOf_57 : decode cX5_comesOf 57 = .ok (.ireturn, 1) := by decide +kernel
theorem dX5_comes_0 : decode cX5_comes 0 = .ok (.iconst 3, 1) := by decide +kernel
theorem dX5_comes_1 : decode cX5_comes 1 = .ok (.iload_n 1, 1) := by decide +kernel
theorem dX5_comes_2 : decode cX5_comes 2 = .ok (.imul, 1) := by decide +kernel
theorem dX5_comes_3 : decode cX5_comes 3 = .ok (.istore_n 2, 1) := by decide +kernel
theorem dX5_comes_4 : decode cX5_comes 4 = .ok (.aload_n 0, 1) := by decide +kernel
theorem dX5_comes_5 : decode cX5_comes 5 = .ok (.getfield 34, 3) := by decide +kernel
theorem dX5_comes_8 : decode cX5_comes 8 = .ok (.iload_n 1, 1) := by decide +kernel
theorem dX5_comes_9 : decode cX5_comes 9 = .ok (.iaload, 1) := by decide +kernel
theorem dX5_comes_10 : decode cX5_comes 10 = .ok (.tableswitch 107 119 121 #[26, 53, 96], 26) := by decide +kernel
theorem dX5_comes_36 : decode cX5_comes 36 = .ok (.aload_n 0, 1) := by decide +kernel
theorem dX5_comes_37 : decode cX5_comes 37 = .ok (.aload_n 0, 1) := by decide +kernel
theorem dX5_comes_38 : decode cX5_comes 38 = .ok (.getfield 40, 3) := by decide +kernel
theorem dX5_comes_41 : decode cX5_comes 41 = .ok (.iload_n 2, 1) := by decide +kernel
theorem dX5_comes_42 : decode cX5_comes 42 = .ok (.iaload, 1) := by decide +kernel
theorem dX5_comes_43 : decode cX5_comes 43 = .ok (.aload_n 0, 1) := by decide +kernel
theorem dX5_comes_44 : decode cX5_comes 44 = .ok (.getfield 40, 3) := by decide +kernel
theorem dX5_comes_47 : decode cX5_comes 47 = .ok (.iload_n 2, 1) := by decide +kernel
theorem dX5_comes_48 : decode cX5_comes 48 = .ok (.iconst 1, 1) := by decide +kernel
theorem dX5_comes_49 : decode cX5_comes 49 = .ok (.iadd, 1) := by decide +kernel
theorem dX5_comes_50 : decode cX5_comes 50 = .ok (.iaload, 1) := by decide +kernel
theorem dX5_comes_51 : decode cX5_comes 51 = .ok (.aload_n 0, 1) := by decide +kernel
theorem dX5_comes_52 : decode cX5_comes 52 = .ok (.getfield 40, 3) := by decide +kernel
theorem dX5_comes_55 : decode cX5_comes 55 = .ok (.iload_n 2, 1) := by decide +kernel
theorem dX5_comes_56 : decode cX5_comes 56 = .ok (.iconst 2, 1) := by decide +kernel
theorem dX5_comes_57 : decode cX5_comes 57 = .ok (.iadd, 1) := by decide +kernel
theorem dX5_comes_58 : decode cX5_comes 58 = .ok (.iaload, 1) := by decide +kernel
theorem dX5_comes_59 : decode cX5_comes 59 = .ok (.invokevirtual 111, 3) := by decide +kernel
theorem dX5_comes_62 : decode cX5_comes 62 = .ok (.ireturn, 1) := by decide +kernel
theorem dX5_comes_63 : decode cX5_comes 63 = .ok (.aload_n 0, 1) := by decide +kernel
theorem dX5_comes_64 : decode cX5_comes 64 = .ok (.aload_n 0, 1) := by decide +kernel
theorem dX5_comes_65 : decode cX5_comes 65 = .ok (.getfield 40, 3) := by decide +kernel
theorem dX5_comes_68 : decode cX5_comes 68 = .ok (.iload_n 2, 1) := by decide +kernel
theorem dX5_comes_69 : decode cX5_comes 69 = .ok (.iaload, 1) := by decide +kernel
theorem dX5_comes_70 : decode cX5_comes 70 = .ok (.aload_n 0, 1) := by decide +kernel
theorem dX5_comes_71 : decode cX5_comes 71 = .ok (.getfield 40, 3) := by decide +kernel
theorem dX5_comes_74 : decode cX5_comes 74 = .ok (.iload_n 2, 1) := by decide +kernel
theorem dX5_comes_75 : decode cX5_comes 75 = .ok (.iconst 1, 1) := by decide +kernel
theorem dX5_comes_76 : decode cX5_comes 76 = .ok (.iadd, 1) := by decide +kernel
theorem dX5_comes_77 : decode cX5_comes 77 = .ok (.iaload, 1) := by decide +kernel
theorem dX5_comes_78 : decode cX5_comes 78 = .ok (.invokevirtual 114, 3) := by decide +kernel
theorem dX5_comes_81 : decode cX5_comes 81 = .ok (.ifCond .ne 5, 3) := by decide +kernel
theorem dX5_comes_84 : decode cX5_comes 84 = .ok (.iconst 0, 1) := by decide +kernel
theorem dX5_comes_85 : decode cX5_comes 85 = .ok (.ireturn, 1) := by decide +kernel
theorem dX5_comes_86 : decode cX5_comes 86 = .ok (.aload_n 0, 1) := by decide +kernel
theorem dX5_comes_87 : decode cX5_comes 87 = .ok (.aload_n 0, 1) := by decide +kernel
theorem dX5_comes_88 : decode cX5_comes 88 = .ok (.getfield 40, 3) := by decide +kernel
theorem dX5_comes_91 : decode cX5_comes 91 = .ok (.iload_n 2, 1) := by decide +kernel
theorem dX5_comes_92 : decode cX5_comes 92 = .ok (.iaload, 1) := by decide +kernel
theorem dX5_comes_93 : decode cX5_comes 93 = .ok (.aload_n 0, 1) := by decide +kernel
theorem dX5_comes_94 : decode cX5_comes 94 = .ok (.getfield 40, 3) := by decide +kernel
theorem dX5_comes_97 : decode cX5_comes 97 = .ok (.iload_n 2, 1) := by decide +kernel
theorem dX5_comes_98 : decode cX5_comes 98 = .ok (.iconst 1, 1) := by decide +kernel
theorem dX5_comes_99 : decode cX5_comes 99 = .ok (.iadd, 1) := by decide +kernel
theorem dX5_comes_100 : decode cX5_comes 100 = .ok (.iaload, 1) := by decide +kernel
theorem dX5_comes_101 : decode cX5_comes 101 = .ok (.invokevirtual 117, 3) := by decide +kernel
theorem dX5_comes_104 : decode cX5_comes 104 = .ok (.iconst 1, 1) := by decide +kernel
theorem dX5_comes_105 : decode cX5_comes 105 = .ok (.ireturn, 1) := by decide +kernel
theorem dX5_comes_106 : decode cX5_comes 106 = .ok (.aload_n 0, 1) := by decide +kernel
theorem dX5_comes_107 : decode cX5_comes 107 = .ok (.aload_n 0, 1) := by decide +kernel
theorem dX5_comes_108 : decode cX5_comes 108 = .ok (.getfield 40, 3) := by decide +kernel
theorem dX5_comes_111 : decode cX5_comes 111 = .ok (.iload_n 2, 1) := by decide +kernel
theorem dX5_comes_112 : decode cX5_comes 112 = .ok (.iaload, 1) := by decide +kernel
theorem dX5_comes_113 : decode cX5_comes 113 = .ok (.invokevirtual 121, 3) := by decide +kernel
theorem dX5_comes_116 : decode cX5_comes 116 = .ok (.ireturn, 1) := by decide +kernel
theorem dX5_comes_117 : decode cX5_comes 117 = .ok (.aload_n 0, 1) := by decide +kernel
theorem dX5_comes_118 : decode cX5_comes 118 = .ok (.aload_n 0, 1) := by decide +kernel
theorem dX5_comes_119 : decode cX5_comes 119 = .ok (.getfield 34, 3) := by decide +kernel
theorem dX5_comes_122 : decode cX5_comes 122 = .ok (.iload_n 1, 1) := by decide +kernel
theorem dX5_comes_123 : decode cX5_comes 123 = .ok (.iaload, 1) := by decide +kernel
theorem dX5_comes_124 : decode cX5_comes 124 = .ok (.aload_n 0, 1) := by decide +kernel
theorem dX5_comes_125 : decode cX5_comes 125 = .ok (.getfield 40, 3) := by decide +kernel
theorem dX5_comes_128 : decode cX5_comes 128 = .ok (.iload_n 2, 1) := by decide +kernel
theorem dX5_comes_129 : decode cX5_comes 129 = .ok (.iaload, 1) := by decide +kernel
theorem dX5_comes_130 : decode cX5_comes 130 = .ok (.aload_n 0, 1) := by decide +kernel
theorem dX5_comes_131 : decode cX5_comes 131 = .ok (.getfield 40, 3) := by decide +kernel
theorem dX5_comes_134 : decode cX5_comes 134 = .ok (.iload_n 2, 1) := by decide +kernel
theorem dX5_comes_135 : decode cX5_comes 135 = .ok (.iconst 1, 1) := by decide +kernel
theorem dX5_comes_136 : decode cX5_comes 136 = .ok (.iadd, 1) := by decide +kernel
theorem dX5_comes_137 : decode cX5_comes 137 = .ok (.iaload, 1) := by decide +kernel
theorem dX5_comes_138 : decode cX5_comes 138 = .ok (.invokevirtual 124, 3) := by decide +kernel
theorem dX5_comes_141 : decode cX5_comes 141 = .ok (.ireturn, 1) := by decide +kernel
theorem dX5_guild_0 : decode cX5_guild 0 = .ok (.aload_n 0, 1) := by decide +kernel
theorem dX5_guild_1 : decode cX5_guild 1 = .ok (.iconst 0, 1) := by decide +kernel
theorem dX5_guild_2 : decode cX5_guild 2 = .ok (.putfield 73, 3) := by decide +kernel
theorem dX5_guild_5 : decode cX5_guild 5 = .ok (.aload_n 0, 1) := by decide +kernel
theorem dX5_guild_6 : decode cX5_guild 6 = .ok (.iconst 0, 1) := by decide +kernel
theorem dX5_guild_7 : decode cX5_guild 7 = .ok (.putfield 95, 3) := by decide +kernel
theorem dX5_guild_10 : decode cX5_guild 10 = .ok (.iconst 1, 1) := by decide +kernel
theorem dX5_guild_11 : decode cX5_guild 11 = .ok (.istore_n 1, 1) := by decide +kernel
theorem dX5_guild_12 : decode cX5_guild 12 = .ok (.iload_n 1, 1) := by decide +kernel
theorem dX5_guild_13 : decode cX5_guild 13 = .ok (.ifCond .eq 47, 3) := by decide +kernel
theorem dX5_guild_16 : decode cX5_guild 16 = .ok (.aload_n 0, 1) := by decide +kernel
theorem dX5_guild_17 : decode cX5_guild 17 = .ok (.getfield 73, 3) := by decide +kernel
theorem dX5_guild_20 : decode cX5_guild 20 = .ok (.aload_n 0, 1) := by decide +kernel
theorem dX5_guild_21 : decode cX5_guild 21 = .ok (.getfield 66, 3) := by decide +kernel
theorem dX5_guild_24 : decode cX5_guild 24 = .ok (.if_icmp .lt 10, 3) := by decide +kernel
theorem dX5_guild_27 : decode cX5_guild 27 = .ok (.aload_n 0, 1) := by decide +kernel
theorem dX5_guild_28 : decode cX5_guild 28 = .ok (.getfield 95, 3) := by decide +kernel
theorem dX5_guild_31 : decode cX5_guild 31 = .ok (.ifCond .ne 29, 3) := by decide +kernel
theorem dX5_guild_34 : decode cX5_guild 34 = .ok (.aload_n 0, 1) := by decide +kernel
theorem dX5_guild_35 : decode cX5_guild 35 = .ok (.invokevirtual 127, 3) := by decide +kernel
theorem dX5_guild_38 : decode cX5_guild 38 = .ok (.istore_n 1, 1) := by decide +kernel
theorem dX5_guild_39 : decode cX5_guild 39 = .ok (.aload_n 0, 1) := by decide +kernel
theorem dX5_guild_40 : decode cX5_guild 40 = .ok (.dup, 1) := by decide +kernel
theorem dX5_guild_41 : decode cX5_guild 41 = .ok (.getfield 95, 3) := by decide +kernel
theorem dX5_guild_44 : decode cX5_guild 44 = .ok (.iload_n 1, 1) := by decide +kernel
theorem dX5_guild_45 : decode cX5_guild 45 = .ok (.ifCond .eq 7, 3) := by decide +kernel
theorem dX5_guild_48 : decode cX5_guild 48 = .ok (.iconst 1, 1) := by decide +kernel
theorem dX5_guild_49 : decode cX5_guild 49 = .ok (.goto 4, 3) := by decide +kernel
theorem dX5_guild_52 : decode cX5_guild 52 = .ok (.iconst 0, 1) := by decide +kernel
theorem dX5_guild_53 : decode cX5_guild 53 = .ok (.iadd, 1) := by decide +kernel
theorem dX5_guild_54 : decode cX5_guild 54 = .ok (.putfield 95, 3) := by decide +kernel
theorem dX5_guild_57 : decode cX5_guild 57 = .ok (.goto (-45), 3) := by decide +kernel
theorem dX5_guild_60 : decode cX5_guild 60 = .ok (.aload_n 0, 1) := by decide +kernel
theorem dX5_guild_61 : decode cX5_guild 61 = .ok (.iconst 0, 1) := by decide +kernel
theorem dX5_guild_62 : decode cX5_guild 62 = .ok (.putfield 66, 3) := by decide +kernel
theorem dX5_guild_65 : decode cX5_guild 65 = .ok (.iload_n 1, 1) := by decide +kernel
theorem dX5_guild_66 : decode cX5_guild 66 = .ok (.ifCond .ne 12, 3) := by decide +kernel
theorem dX5_guild_69 : decode cX5_guild 69 = .ok (.sipush (-1000), 3) := by decide +kernel
theorem dX5_guild_72 : decode cX5_guild 72 = .ok (.aload_n 0, 1) := by decide +kernel
theorem dX5_guild_73 : decode cX5_guild 73 = .ok (.getfield 73, 3) := by decide +kernel
theorem dX5_guild_76 : decode cX5_guild 76 = .ok (.isub, 1) := by decide +kernel
theorem dX5_guild_77 : decode cX5_guild 77 = .ok (.ireturn, 1) := by decide +kernel
theorem dX5_guild_78 : decode cX5_guild 78 = .ok (.aload_n 0, 1) := by decide +kernel
theorem dX5_guild_79 : decode cX5_guild 79 = .ok (.iconst 1, 1) := by decide +kernel
theorem dX5_guild_80 : decode cX5_guild 80 = .ok (.iconst 1, 1) := by decide +kernel
theorem dX5_guild_81 : decode cX5_guild 81 = .ok (.invokevirtual 131, 3) := by decide +kernel
theorem dX5_guild_84 : decode cX5_guild 84 = .ok (.iconst 0, 1) := by decide +kernel
theorem dX5_guild_85 : decode cX5_guild 85 = .ok (.istore_n 2, 1) := by decide +kernel
theorem dX5_guild_86 : decode cX5_guild 86 = .ok (.iload_n 2, 1) := by decide +kernel
theorem dX5_guild_87 : decode cX5_guild 87 = .ok (.aload_n 0, 1) := by decide +kernel
theorem dX5_guild_88 : decode cX5_guild 88 = .ok (.getfield 95, 3) := by decide +kernel
theorem dX5_guild_91 : decode cX5_guild 91 = .ok (.if_icmp .ge 37, 3) := by decide +kernel
theorem dX5_guild_94 : decode cX5_guild 94 = .ok (.aload_n 0, 1) := by decide +kernel
theorem dX5_guild_95 : decode cX5_guild 95 = .ok (.iload_n 2, 1) := by decide +kernel
theorem dX5_guild_96 : decode cX5_guild 96 = .ok (.invokevirtual 135, 3) := by decide +kernel
theorem dX5_guild_99 : decode cX5_guild 99 = .ok (.ifCond .eq 6, 3) := by decide +kernel
theorem dX5_guild_102 : decode cX5_guild 102 = .ok (.goto 20, 3) := by decide +kernel
theorem dX5_guild_105 : decode cX5_guild 105 = .ok (.aload_n 0, 1) := by decide +kernel
theorem dX5_guild_106 : decode cX5_guild 106 = .ok (.iconst 1, 1) := by decide +kernel
theorem dX5_guild_107 : decode cX5_guild 107 = .ok (.iconst 0, 1) := by decide +kernel
theorem dX5_guild_108 : decode cX5_guild 108 = .ok (.invokevirtual 131, 3) := by decide +kernel
theorem dX5_guild_111 : decode cX5_guild 111 = .ok (.sipush (-2000), 3) := by decide +kernel
theorem dX5_guild_114 : decode cX5_guild 114 = .ok (.aload_n 0, 1) := by decide +kernel
theorem dX5_guild_115 : decode cX5_guild 115 = .ok (.getfield 37, 3) := by decide +kernel
theorem dX5_guild_118 : decode cX5_guild 118 = .ok (.iload_n 2, 1) := by decide +kernel
theorem dX5_guild_119 : decode cX5_guild 119 = .ok (.iaload, 1) := by decide +kernel
theorem dX5_guild_120 : decode cX5_guild 120 = .ok (.isub, 1) := by decide +kernel
theorem dX5_guild_121 : decode cX5_guild 121 = .ok (.ireturn, 1) := by decide +kernel
theorem dX5_guild_122 : decode cX5_guild 122 = .ok (.iinc 2 1, 3) := by decide +kernel
theorem dX5_guild_125 : decode cX5_guild 125 = .ok (.goto (-39), 3) := by decide +kernel
theorem dX5_guild_128 : decode cX5_guild 128 = .ok (.aload_n 0, 1) := by decide +kernel
theorem dX5_guild_129 : decode cX5_guild 129 = .ok (.getfield 95, 3) := by decide +kernel
theorem dX5_guild_132 : decode cX5_guild 132 = .ok (.ireturn, 1) := by decide +kernel
theorem dX5_passes_0 : decode cX5_passes 0 = .ok (.iconst 0, 1) := by decide +kernel
theorem dX5_passes_1 : decode cX5_passes 1 = .ok (.istore_n 2, 1) := by decide +kernel
theorem dX5_passes_2 : decode cX5_passes 2 = .ok (.iload_n 2, 1) := by decide +kernel
theorem dX5_passes_3 : decode cX5_passes 3 = .ok (.aload_n 1, 1) := by decide +kernel
theorem dX5_passes_4 : decode cX5_passes 4 = .ok (.arraylength, 1) := by decide +kernel
theorem dX5_passes_5 : decode cX5_passes 5 = .ok (.if_icmp .ge 53, 3) := by decide +kernel
theorem dX5_passes_8 : decode cX5_passes 8 = .ok (.aload_n 0, 1) := by decide +kernel
theorem dX5_passes_9 : decode cX5_passes 9 = .ok (.getfield 138, 3) := by decide +kernel
theorem dX5_passes_12 : decode cX5_passes 12 = .ok (.ifCond .eq 18, 3) := by decide +kernel
theorem dX5_passes_15 : decode cX5_passes 15 = .ok (.aload_n 0, 1) := by decide +kernel
theorem dX5_passes_16 : decode cX5_passes 16 = .ok (.getfield 43, 3) := by decide +kernel
theorem dX5_passes_19 : decode cX5_passes 19 = .ok (.aload_n 0, 1) := by decide +kernel
theorem dX5_passes_20 : decode cX5_passes 20 = .ok (.getfield 142, 3) := by decide +kernel
theorem dX5_passes_23 : decode cX5_passes 23 = .ok (.aload_n 1, 1) := by decide +kernel
theorem dX5_passes_24 : decode cX5_passes 24 = .ok (.iload_n 2, 1) := by decide +kernel
theorem dX5_passes_25 : decode cX5_passes 25 = .ok (.iaload, 1) := by decide +kernel
theorem dX5_passes_26 : decode cX5_passes 26 = .ok (.iastore, 1) := by decide +kernel
theorem dX5_passes_27 : decode cX5_passes 27 = .ok (.goto 15, 3) := by decide +kernel
theorem dX5_passes_30 : decode cX5_passes 30 = .ok (.aload_n 1, 1) := by decide +kernel
theorem dX5_passes_31 : decode cX5_passes 31 = .ok (.iload_n 2, 1) := by decide +kernel
theorem dX5_passes_32 : decode cX5_passes 32 = .ok (.aload_n 0, 1) := by decide +kernel
theorem dX5_passes_33 : decode cX5_passes 33 = .ok (.getfield 43, 3) := by decide +kernel
theorem dX5_passes_36 : decode cX5_passes 36 = .ok (.aload_n 0, 1) := by decide +kernel
theorem dX5_passes_37 : decode cX5_passes 37 = .ok (.getfield 142, 3) := by decide +kernel
theorem dX5_passes_40 : decode cX5_passes 40 = .ok (.iaload, 1) := by decide +kernel
theorem dX5_passes_41 : decode cX5_passes 41 = .ok (.iastore, 1) := by decide +kernel
theorem dX5_passes_42 : decode cX5_passes 42 = .ok (.aload_n 0, 1) := by decide +kernel
theorem dX5_passes_43 : decode cX5_passes 43 = .ok (.dup, 1) := by decide +kernel
theorem dX5_passes_44 : decode cX5_passes 44 = .ok (.getfield 142, 3) := by decide +kernel
theorem dX5_passes_47 : decode cX5_passes 47 = .ok (.iconst 1, 1) := by decide +kernel
theorem dX5_passes_48 : decode cX5_passes 48 = .ok (.iadd, 1) := by decide +kernel
theorem dX5_passes_49 : decode cX5_passes 49 = .ok (.putfield 142, 3) := by decide +kernel
theorem dX5_passes_52 : decode cX5_passes 52 = .ok (.iinc 2 1, 3) := by decide +kernel
theorem dX5_passes_55 : decode cX5_passes 55 = .ok (.goto (-53), 3) := by decide +kernel
theorem dX5_passes_58 : decode cX5_passes 58 = .ok (.return_, 1) := by decide +kernel
theorem dX5_passOne_0 : decode cX5_passOne 0 = .ok (.aload_n 0, 1) := by decide +kernel
theorem dX5_passOne_1 : decode cX5_passOne 1 = .ok (.getfield 138, 3) := by decide +kernel
theorem dX5_passOne_4 : decode cX5_passOne 4 = .ok (.ifCond .eq 7, 3) := by decide +kernel
theorem dX5_passOne_7 : decode cX5_passOne 7 = .ok (.iload_n 1, 1) := by decide +kernel
theorem dX5_passOne_8 : decode cX5_passOne 8 = .ok (.goto 12, 3) := by decide +kernel
theorem dX5_passOne_11 : decode cX5_passOne 11 = .ok (.aload_n 0, 1) := by decide +kernel
theorem dX5_passOne_12 : decode cX5_passOne 12 = .ok (.getfield 43, 3) := by decide +kernel
theorem dX5_passOne_15 : decode cX5_passOne 15 = .ok (.aload_n 0, 1) := by decide +kernel
theorem dX5_passOne_16 : decode cX5_passOne 16 = .ok (.getfield 142, 3) := by decide +kernel
theorem dX5_passOne_19 : decode cX5_passOne 19 = .ok (.iaload, 1) := by decide +kernel
theorem dX5_passOne_20 : decode cX5_passOne 20 = .ok (.istore_n 2, 1) := by decide +kernel
theorem dX5_passOne_21 : decode cX5_passOne 21 = .ok (.aload_n 0, 1) := by decide +kernel
theorem dX5_passOne_22 : decode cX5_passOne 22 = .ok (.getfield 138, 3) := by decide +kernel
theorem dX5_passOne_25 : decode cX5_passOne 25 = .ok (.ifCond .eq 13, 3) := by decide +kernel
theorem dX5_passOne_28 : decode cX5_passOne 28 = .ok (.aload_n 0, 1) := by decide +kernel
theorem dX5_passOne_29 : decode cX5_passOne 29 = .ok (.getfield 43, 3) := by decide +kernel
theorem dX5_passOne_32 : decode cX5_passOne 32 = .ok (.aload_n 0, 1) := by decide +kernel
theorem dX5_passOne_33 : decode cX5_passOne 33 = .ok (.getfield 142, 3) := by decide +kernel
theorem dX5_passOne_36 : decode cX5_passOne 36 = .ok (.iload_n 1, 1) := by decide +kernel
theorem dX5_passOne_37 : decode cX5_passOne 37 = .ok (.iastore, 1) := by decide +kernel
theorem dX5_passOne_38 : decode cX5_passOne 38 = .ok (.aload_n 0, 1) := by decide +kernel
theorem dX5_passOne_39 : decode cX5_passOne 39 = .ok (.dup, 1) := by decide +kernel
theorem dX5_passOne_40 : decode cX5_passOne 40 = .ok (.getfield 142, 3) := by decide +kernel
theorem dX5_passOne_43 : decode cX5_passOne 43 = .ok (.iconst 1, 1) := by decide +kernel
theorem dX5_passOne_44 : decode cX5_passOne 44 = .ok (.iadd, 1) := by decide +kernel
theorem dX5_passOne_45 : decode cX5_passOne 45 = .ok (.putfield 142, 3) := by decide +kernel
theorem dX5_passOne_48 : decode cX5_passOne 48 = .ok (.iload_n 2, 1) := by decide +kernel
theorem dX5_passOne_49 : decode cX5_passOne 49 = .ok (.ireturn, 1) := by decide +kernel
theorem dX5_passesAll_0 : decode cX5_passesAll 0 = .ok (.aload_n 0, 1) := by decide +kernel
theorem dX5_passesAll_1 : decode cX5_passesAll 1 = .ok (.bipush 44, 2) := by decide +kernel
theorem dX5_passesAll_3 : decode cX5_passesAll 3 = .ok (.iload_n 1, 1) := by decide +kernel
theorem dX5_passesAll_4 : decode cX5_passesAll 4 = .ok (.imul, 1) := by decide +kernel
theorem dX5_passesAll_5 : decode cX5_passesAll 5 = .ok (.putfield 142, 3) := by decide +kernel
theorem dX5_passesAll_8 : decode cX5_passesAll 8 = .ok (.aload_n 0, 1) := by decide +kernel
theorem dX5_passesAll_9 : decode cX5_passesAll 9 = .ok (.iload_n 2, 1) := by decide +kernel
theorem dX5_passesAll_10 : decode cX5_passesAll 10 = .ok (.putfield 138, 3) := by decide +kernel
theorem dX5_passesAll_13 : decode cX5_passesAll 13 = .ok (.aload_n 0, 1) := by decide +kernel
theorem dX5_passesAll_14 : decode cX5_passesAll 14 = .ok (.aload_n 0, 1) := by decide +kernel
theorem dX5_passesAll_15 : decode cX5_passesAll 15 = .ok (.getfield 13, 3) := by decide +kernel
theorem dX5_passesAll_18 : decode cX5_passesAll 18 = .ok (.invokevirtual 145, 3) := by decide +kernel
theorem dX5_passesAll_21 : decode cX5_passesAll 21 = .ok (.aload_n 0, 1) := by decide +kernel
theorem dX5_passesAll_22 : decode cX5_passesAll 22 = .ok (.aload_n 0, 1) := by decide +kernel
theorem dX5_passesAll_23 : decode cX5_passesAll 23 = .ok (.getfield 16, 3) := by decide +kernel
theorem dX5_passesAll_26 : decode cX5_passesAll 26 = .ok (.invokevirtual 145, 3) := by decide +kernel
theorem dX5_passesAll_29 : decode cX5_passesAll 29 = .ok (.aload_n 0, 1) := by decide +kernel
theorem dX5_passesAll_30 : decode cX5_passesAll 30 = .ok (.aload_n 0, 1) := by decide +kernel
theorem dX5_passesAll_31 : decode cX5_passesAll 31 = .ok (.getfield 19, 3) := by decide +kernel
theorem dX5_passesAll_34 : decode cX5_passesAll 34 = .ok (.invokevirtual 145, 3) := by decide +kernel
theorem dX5_passesAll_37 : decode cX5_passesAll 37 = .ok (.aload_n 0, 1) := by decide +kernel
theorem dX5_passesAll_38 : decode cX5_passesAll 38 = .ok (.aload_n 0, 1) := by decide +kernel
theorem dX5_passesAll_39 : decode cX5_passesAll 39 = .ok (.getfield 22, 3) := by decide +kernel
theorem dX5_passesAll_42 : decode cX5_passesAll 42 = .ok (.invokevirtual 145, 3) := by decide +kernel
theorem dX5_passesAll_45 : decode cX5_passesAll 45 = .ok (.aload_n 0, 1) := by decide +kernel
theorem dX5_passesAll_46 : decode cX5_passesAll 46 = .ok (.aload_n 0, 1) := by decide +kernel
theorem dX5_passesAll_47 : decode cX5_passesAll 47 = .ok (.getfield 25, 3) := by decide +kernel
theorem dX5_passesAll_50 : decode cX5_passesAll 50 = .ok (.invokevirtual 145, 3) := by decide +kernel
theorem dX5_passesAll_53 : decode cX5_passesAll 53 = .ok (.aload_n 0, 1) := by decide +kernel
theorem dX5_passesAll_54 : decode cX5_passesAll 54 = .ok (.aload_n 0, 1) := by decide +kernel
theorem dX5_passesAll_55 : decode cX5_passesAll 55 = .ok (.getfield 28, 3) := by decide +kernel
theorem dX5_passesAll_58 : decode cX5_passesAll 58 = .ok (.invokevirtual 145, 3) := by decide +kernel
theorem dX5_passesAll_61 : decode cX5_passesAll 61 = .ok (.aload_n 0, 1) := by decide +kernel
theorem dX5_passesAll_62 : decode cX5_passesAll 62 = .ok (.aload_n 0, 1) := by decide +kernel
theorem dX5_passesAll_63 : decode cX5_passesAll 63 = .ok (.aload_n 0, 1) := by decide +kernel
theorem dX5_passesAll_64 : decode cX5_passesAll 64 = .ok (.getfield 55, 3) := by decide +kernel
theorem dX5_passesAll_67 : decode cX5_passesAll 67 = .ok (.invokevirtual 149, 3) := by decide +kernel
theorem dX5_passesAll_70 : decode cX5_passesAll 70 = .ok (.putfield 55, 3) := by decide +kernel
theorem dX5_passesAll_73 : decode cX5_passesAll 73 = .ok (.aload_n 0, 1) := by decide +kernel
theorem dX5_passesAll_74 : decode cX5_passesAll 74 = .ok (.aload_n 0, 1) := by decide +kernel
theorem dX5_passesAll_75 : decode cX5_passesAll 75 = .ok (.aload_n 0, 1) := by decide +kernel
theorem dX5_passesAll_76 : decode cX5_passesAll 76 = .ok (.getfield 101, 3) := by decide +kernel
theorem dX5_passesAll_79 : decode cX5_passesAll 79 = .ok (.invokevirtual 149, 3) := by decide +kernel
theorem dX5_passesAll_82 : decode cX5_passesAll 82 = .ok (.putfield 101, 3) := by decide +kernel
theorem dX5_passesAll_85 : decode cX5_passesAll 85 = .ok (.return_, 1) := by decide +kernel
theorem dX5_thinks_0 : decode cX5_thinks 0 = .ok (.aload_n 0, 1) := by decide +kernel
theorem dX5_thinks_1 : decode cX5_thinks 1 = .ok (.iconst 2, 1) := by decide +kernel
theorem dX5_thinks_2 : decode cX5_thinks 2 = .ok (.iconst 1, 1) := by decide +kernel
theorem dX5_thinks_3 : decode cX5_thinks 3 = .ok (.invokevirtual 131, 3) := by decide +kernel
theorem dX5_thinks_6 : decode cX5_thinks 6 = .ok (.return_, 1) := by decide +kernel
theorem dX5_forgets_0 : decode cX5_forgets 0 = .ok (.aload_n 0, 1) := by decide +kernel
theorem dX5_forgets_1 : decode cX5_forgets 1 = .ok (.iconst 2, 1) := by decide +kernel
theorem dX5_forgets_2 : decode cX5_forgets 2 = .ok (.iconst 0, 1) := by decide +kernel
theorem dX5_forgets_3 : decode cX5_forgets 3 = .ok (.invokevirtual 131, 3) := by decide +kernel
theorem dX5_forgets_6 : decode cX5_forgets 6 = .ok (.return_, 1) := by decide +kernel
theorem dX5_image_0 : decode cX5_image 0 = .ok (.aload_n 0, 1) := by decide +kernel
theorem dX5_image_1 : decode cX5_image 1 = .ok (.iconst 1, 1) := by decide +kernel
theorem dX5_image_2 : decode cX5_image 2 = .ok (.putfield 152, 3) := by decide +kernel
theorem dX5_image_5 : decode cX5_image 5 = .ok (.aload_n 0, 1) := by decide +kernel
theorem dX5_image_6 : decode cX5_image 6 = .ok (.iconst 0, 1) := by decide +kernel
theorem dX5_image_7 : decode cX5_image 7 = .ok (.iconst 1, 1) := by decide +kernel
theorem dX5_image_8 : decode cX5_image 8 = .ok (.invokevirtual 131, 3) := by decide +kernel
theorem dX5_image_11 : decode cX5_image 11 = .ok (.aload_n 0, 1) := by decide +kernel
theorem dX5_image_12 : decode cX5_image 12 = .ok (.getfield 101, 3) := by decide +kernel
theorem dX5_image_15 : decode cX5_image 15 = .ok (.ireturn, 1) := by decide +kernel
theorem dX5_on_0 : decode cX5_on 0 = .ok (.aload_n 0, 1) := by decide +kernel
theorem dX5_on_1 : decode cX5_on 1 = .ok (.getfield 152, 3) := by decide +kernel
theorem dX5_on_4 : decode cX5_on 4 = .ok (.ifCond .ne 10, 3) := by decide +kernel
theorem dX5_on_7 : decode cX5_on 7 = .ok (.aload_n 0, 1) := by decide +kernel
theorem dX5_on_8 : decode cX5_on 8 = .ok (.bipush (-3), 2) := by decide +kernel
theorem dX5_on_10 : decode cX5_on 10 = .ok (.invokevirtual 69, 3) := by decide +kernel
theorem dX5_on_13 : decode cX5_on 13 = .ok (.ireturn, 1) := by decide +kernel
theorem dX5_on_14 : decode cX5_on 14 = .ok (.aload_n 0, 1) := by decide +kernel
theorem dX5_on_15 : decode cX5_on 15 = .ok (.iconst 0, 1) := by decide +kernel
theorem dX5_on_16 : decode cX5_on 16 = .ok (.iconst 0, 1) := by decide +kernel
theorem dX5_on_17 : decode cX5_on 17 = .ok (.invokevirtual 131, 3) := by decide +kernel
theorem dX5_on_20 : decode cX5_on 20 = .ok (.aload_n 0, 1) := by decide +kernel
theorem dX5_on_21 : decode cX5_on 21 = .ok (.getfield 101, 3) := by decide +kernel
theorem dX5_on_24 : decode cX5_on 24 = .ok (.ireturn, 1) := by decide +kernel
theorem dX5_opens_0 : decode cX5_opens 0 = .ok (.aload_n 0, 1) := by decide +kernel
theorem dX5_opens_1 : decode cX5_opens 1 = .ok (.getfield 19, 3) := by decide +kernel
theorem dX5_opens_4 : decode cX5_opens 4 = .ok (.iload_n 1, 1) := by decide +kernel
theorem dX5_opens_5 : decode cX5_opens 5 = .ok (.iaload, 1) := by decide +kernel
theorem dX5_opens_6 : decode cX5_opens 6 = .ok (.aload_n 0, 1) := by decide +kernel
theorem dX5_opens_7 : decode cX5_opens 7 = .ok (.getfield 101, 3) := by decide +kernel
theorem dX5_opens_10 : decode cX5_opens 10 = .ok (.iadd, 1) := by decide +kernel
theorem dX5_opens_11 : decode cX5_opens 11 = .ok (.bipush 10, 2) := by decide +kernel
theorem dX5_opens_13 : decode cX5_opens 13 = .ok (.irem, 1) := by decide +kernel
theorem dX5_opens_14 : decode cX5_opens 14 = .ok (.ireturn, 1) := by decide +kernel
theorem dX5_ends_0 : decode cX5_ends 0 = .ok (.iload_n 2, 1) := by decide +kernel
theorem dX5_ends_1 : decode cX5_ends 1 = .ok (.aload_n 0, 1) := by decide +kernel
theorem dX5_ends_2 : decode cX5_ends 2 = .ok (.getfield 16, 3) := by decide +kernel
theorem dX5_ends_5 : decode cX5_ends 5 = .ok (.iload_n 1, 1) := by decide +kernel
theorem dX5_ends_6 : decode cX5_ends 6 = .ok (.iaload, 1) := by decide +kernel
theorem dX5_ends_7 : decode cX5_ends 7 = .ok (.iadd, 1) := by decide +kernel
theorem dX5_ends_8 : decode cX5_ends 8 = .ok (.bipush 10, 2) := by decide +kernel
theorem dX5_ends_10 : decode cX5_ends 10 = .ok (.irem, 1) := by decide +kernel
theorem dX5_ends_11 : decode cX5_ends 11 = .ok (.istore_n 3, 1) := by decide +kernel
theorem dX5_ends_12 : decode cX5_ends 12 = .ok (.aload_n 0, 1) := by decide +kernel
theorem dX5_ends_13 : decode cX5_ends 13 = .ok (.getfield 13, 3) := by decide +kernel
theorem dX5_ends_16 : decode cX5_ends 16 = .ok (.iload_n 1, 1) := by decide +kernel
theorem dX5_ends_17 : decode cX5_ends 17 = .ok (.iaload, 1) := by decide +kernel
theorem dX5_ends_18 : decode cX5_ends 18 = .ok (.tableswitch 71 1 5 #[34, 39, 41, 43, 57], 34) := by decide +kernel
theorem dX5_ends_52 : decode cX5_ends 52 = .ok (.bipush 9, 2) := by decide +kernel
theorem dX5_ends_54 : decode cX5_ends 54 = .ok (.iload_n 3, 1) := by decide +kernel
theorem dX5_ends_55 : decode cX5_ends 55 = .ok (.isub, 1) := by decide +kernel
theorem dX5_ends_56 : decode cX5_ends 56 = .ok (.ireturn, 1) := by decide +kernel
theorem dX5_ends_57 : decode cX5_ends 57 = .ok (.iconst 0, 1) := by decide +kernel
theorem dX5_ends_58 : decode cX5_ends 58 = .ok (.ireturn, 1) := by decide +kernel
theorem dX5_ends_59 : decode cX5_ends 59 = .ok (.iconst 5, 1) := by decide +kernel
theorem dX5_ends_60 : decode cX5_ends 60 = .ok (.ireturn, 1) := by decide +kernel
theorem dX5_ends_61 : decode cX5_ends 61 = .ok (.iload_n 2, 1) := by decide +kernel
theorem dX5_ends_62 : decode cX5_ends 62 = .ok (.iconst 5, 1) := by decide +kernel
theorem dX5_ends_63 : decode cX5_ends 63 = .ok (.if_icmp .ge 10, 3) := by decide +kernel
theorem dX5_ends_66 : decode cX5_ends 66 = .ok (.bipush 9, 2) := by decide +kernel
theorem dX5_ends_68 : decode cX5_ends 68 = .ok (.iload_n 3, 1) := by decide +kernel
theorem dX5_ends_69 : decode cX5_ends 69 = .ok (.isub, 1) := by decide +kernel
theorem dX5_ends_70 : decode cX5_ends 70 = .ok (.goto 4, 3) := by decide +kernel
theorem dX5_ends_73 : decode cX5_ends 73 = .ok (.iload_n 2, 1) := by decide +kernel
theorem dX5_ends_74 : decode cX5_ends 74 = .ok (.ireturn, 1) := by decide +kernel
theorem dX5_ends_75 : decode cX5_ends 75 = .ok (.iload_n 2, 1) := by decide +kernel
theorem dX5_ends_76 : decode cX5_ends 76 = .ok (.iconst 2, 1) := by decide +kernel
theorem dX5_ends_77 : decode cX5_ends 77 = .ok (.irem, 1) := by decide +kernel
theorem dX5_ends_78 : decode cX5_ends 78 = .ok (.iconst 1, 1) := by decide +kernel
theorem dX5_ends_79 : decode cX5_ends 79 = .ok (.if_icmp .ne 8, 3) := by decide +kernel
theorem dX5_ends_82 : decode cX5_ends 82 = .ok (.bipush 9, 2) := by decide +kernel
theorem dX5_ends_84 : decode cX5_ends 84 = .ok (.goto 4, 3) := by decide +kernel
theorem dX5_ends_87 : decode cX5_ends 87 = .ok (.iconst 0, 1) := by decide +kernel
theorem dX5_ends_88 : decode cX5_ends 88 = .ok (.ireturn, 1) := by decide +kernel
theorem dX5_ends_89 : decode cX5_ends 89 = .ok (.iload_n 3, 1) := by decide +kernel
theorem dX5_ends_90 : decode cX5_ends 90 = .ok (.ireturn, 1) := by decide +kernel
theorem dX5_gains_0 : decode cX5_gains 0 = .ok (.aload_n 0, 1) := by decide +kernel
theorem dX5_gains_1 : decode cX5_gains 1 = .ok (.getfield 13, 3) := by decide +kernel
theorem dX5_gains_4 : decode cX5_gains 4 = .ok (.iload_n 1, 1) := by decide +kernel
theorem dX5_gains_5 : decode cX5_gains 5 = .ok (.iaload, 1) := by decide +kernel
theorem dX5_gains_6 : decode cX5_gains 6 = .ok (.iconst 1, 1) := by decide +kernel
theorem dX5_gains_7 : decode cX5_gains 7 = .ok (.if_icmp .eq 13, 3) := by decide +kernel
theorem dX5_gains_10 : decode cX5_gains 10 = .ok (.aload_n 0, 1) := by decide +kernel
theorem dX5_gains_11 : decode cX5_gains 11 = .ok (.getfield 13, 3) := by decide +kernel
theorem dX5_gains_14 : decode cX5_gains 14 = .ok (.iload_n 1, 1) := by decide +kernel
theorem dX5_gains_15 : decode cX5_gains 15 = .ok (.iaload, 1) := by decide +kernel
theorem dX5_gains_16 : decode cX5_gains 16 = .ok (.iconst 4, 1) := by decide +kernel
theorem dX5_gains_17 : decode cX5_gains 17 = .ok (.if_icmp .ne 7, 3) := by decide +kernel
theorem dX5_gains_20 : decode cX5_gains 20 = .ok (.iconst 1, 1) := by decide +kernel
theorem dX5_gains_21 : decode cX5_gains 21 = .ok (.goto 33, 3) := by decide +kernel
theorem dX5_gains_24 : decode cX5_gains 24 = .ok (.aload_n 0, 1) := by decide +kernel
theorem dX5_gains_25 : decode cX5_gains 25 = .ok (.getfield 13, 3) := by decide +kernel
theorem dX5_gains_28 : decode cX5_gains 28 = .ok (.iload_n 1, 1) := by decide +kernel
theorem dX5_gains_29 : decode cX5_gains 29 = .ok (.iaload, 1) := by decide +kernel
theorem dX5_gains_30 : decode cX5_gains 30 = .ok (.iconst 2, 1) := by decide +kernel
theorem dX5_gains_31 : decode cX5_gains 31 = .ok (.if_icmp .ne 8, 3) := by decide +kernel
theorem dX5_gains_34 : decode cX5_gains 34 = .ok (.bipush (-2), 2) := by decide +kernel
theorem dX5_gains_36 : decode cX5_gains 36 = .ok (.goto 18, 3) := by decide +kernel
theorem dX5_gains_39 : decode cX5_gains 39 = .ok (.aload_n 0, 1) := by decide +kernel
theorem dX5_gains_40 : decode cX5_gains 40 = .ok (.getfield 13, 3) := by decide +kernel
theorem dX5_gains_43 : decode cX5_gains 43 = .ok (.iload_n 1, 1) := by decide +kernel
theorem dX5_gains_44 : decode cX5_gains 44 = .ok (.iaload, 1) := by decide +kernel
theorem dX5_gains_45 : decode cX5_gains 45 = .ok (.iconst 5, 1) := by decide +kernel
theorem dX5_gains_46 : decode cX5_gains 46 = .ok (.if_icmp .ne 7, 3) := by decide +kernel
theorem dX5_gains_49 : decode cX5_gains 49 = .ok (.iconst 2, 1) := by decide +kernel
theorem dX5_gains_50 : decode cX5_gains 50 = .ok (.goto 4, 3) := by decide +kernel
theorem dX5_gains_53 : decode cX5_gains 53 = .ok (.iconst 0, 1) := by decide +kernel
theorem dX5_gains_54 : decode cX5_gains 54 = .ok (.ireturn, 1) := by decide +kernel
theorem dX5_wayTo_0 : decode cX5_wayTo 0 = .ok (.iload_n 0, 1) := by decide +kernel
theorem dX5_wayTo_1 : decode cX5_wayTo 1 = .ok (.iload_n 1, 1) := by decide +kernel
theorem dX5_wayTo_2 : decode cX5_wayTo 2 = .ok (.if_icmp .le 9, 3) := by decide +kernel
theorem dX5_wayTo_5 : decode cX5_wayTo 5 = .ok (.iload_n 0, 1) := by decide +kernel
theorem dX5_wayTo_6 : decode cX5_wayTo 6 = .ok (.iload_n 1, 1) := by decide +kernel
theorem dX5_wayTo_7 : decode cX5_wayTo 7 = .ok (.isub, 1) := by decide +kernel
theorem dX5_wayTo_8 : decode cX5_wayTo 8 = .ok (.goto 6, 3) := by decide +kernel
theorem dX5_wayTo_11 : decode cX5_wayTo 11 = .ok (.iload_n 1, 1) := by decide +kernel
theorem dX5_wayTo_12 : decode cX5_wayTo 12 = .ok (.iload_n 0, 1) := by decide +kernel
theorem dX5_wayTo_13 : decode cX5_wayTo 13 = .ok (.isub, 1) := by decide +kernel
theorem dX5_wayTo_14 : decode cX5_wayTo 14 = .ok (.istore_n 2, 1) := by decide +kernel
theorem dX5_wayTo_15 : decode cX5_wayTo 15 = .ok (.iload_n 2, 1) := by decide +kernel
theorem dX5_wayTo_16 : decode cX5_wayTo 16 = .ok (.bipush 10, 2) := by decide +kernel
theorem dX5_wayTo_18 : decode cX5_wayTo 18 = .ok (.iload_n 2, 1) := by decide +kernel
theorem dX5_wayTo_19 : decode cX5_wayTo 19 = .ok (.isub, 1) := by decide +kernel
theorem dX5_wayTo_20 : decode cX5_wayTo 20 = .ok (.if_icmp .ge 7, 3) := by decide +kernel
theorem dX5_wayTo_23 : decode cX5_wayTo 23 = .ok (.iload_n 2, 1) := by decide +kernel
theorem dX5_wayTo_24 : decode cX5_wayTo 24 = .ok (.goto 7, 3) := by decide +kernel
theorem dX5_wayTo_27 : decode cX5_wayTo 27 = .ok (.bipush 10, 2) := by decide +kernel
theorem dX5_wayTo_29 : decode cX5_wayTo 29 = .ok (.iload_n 2, 1) := by decide +kernel
theorem dX5_wayTo_30 : decode cX5_wayTo 30 = .ok (.isub, 1) := by decide +kernel
theorem dX5_wayTo_31 : decode cX5_wayTo 31 = .ok (.ireturn, 1) := by decide +kernel
theorem dX5_worthOf_0 : decode cX5_worthOf 0 = .ok (.bipush 9, 2) := by decide +kernel
theorem dX5_worthOf_2 : decode cX5_worthOf 2 = .ok (.iconst 2, 1) := by decide +kernel
theorem dX5_worthOf_3 : decode cX5_worthOf 3 = .ok (.iload_n 0, 1) := by decide +kernel
theorem dX5_worthOf_4 : decode cX5_worthOf 4 = .ok (.iload_n 1, 1) := by decide +kernel
theorem dX5_worthOf_5 : decode cX5_worthOf 5 = .ok (.invokestatic 155, 3) := by decide +kernel
theorem dX5_worthOf_8 : decode cX5_worthOf 8 = .ok (.imul, 1) := by decide +kernel
theorem dX5_worthOf_9 : decode cX5_worthOf 9 = .ok (.isub, 1) := by decide +kernel
theorem dX5_worthOf_10 : decode cX5_worthOf 10 = .ok (.ireturn, 1) := by decide +kernel
theorem dX5_placeOf_0 : decode cX5_placeOf 0 = .ok (.iconst 0, 1) := by decide +kernel
theorem dX5_placeOf_1 : decode cX5_placeOf 1 = .ok (.istore_n 2, 1) := by decide +kernel
theorem dX5_placeOf_2 : decode cX5_placeOf 2 = .ok (.aload_n 0, 1) := by decide +kernel
theorem dX5_placeOf_3 : decode cX5_placeOf 3 = .ok (.getfield 28, 3) := by decide +kernel
theorem dX5_placeOf_6 : decode cX5_placeOf 6 = .ok (.iload_n 2, 1) := by decide +kernel
theorem dX5_placeOf_7 : decode cX5_placeOf 7 = .ok (.iaload, 1) := by decide +kernel
theorem dX5_placeOf_8 : decode cX5_placeOf 8 = .ok (.iload_n 1, 1) := by decide +kernel
theorem dX5_placeOf_9 : decode cX5_placeOf 9 = .ok (.if_icmp .eq 9, 3) := by decide +kernel
theorem dX5_placeOf_12 : decode cX5_placeOf 12 = .ok (.iinc 2 1, 3) := by decide +kernel
theorem dX5_placeOf_15 : decode cX5_placeOf 15 = .ok (.goto (-13), 3) := by decide +kernel
theorem dX5_placeOf_18 : decode cX5_placeOf 18 = .ok (.iload_n 2, 1) := by decide +kernel
theorem dX5_placeOf_19 : decode cX5_placeOf 19 = .ok (.ireturn, 1) := by decide +kernel
theorem dX5_enderOf_0 : decode cX5_enderOf 0 = .ok (.aload_n 0, 1) := by decide +kernel
theorem dX5_enderOf_1 : decode cX5_enderOf 1 = .ok (.iload_n 1, 1) := by decide +kernel
theorem dX5_enderOf_2 : decode cX5_enderOf 2 = .ok (.invokevirtual 159, 3) := by decide +kernel
theorem dX5_enderOf_5 : decode cX5_enderOf 5 = .ok (.istore_n 2, 1) := by decide +kernel
theorem dX5_enderOf_6 : decode cX5_enderOf 6 = .ok (.iconst 1, 1) := by decide +kernel
theorem dX5_enderOf_7 : decode cX5_enderOf 7 = .ok (.istore_n 3, 1) := by decide +kernel
theorem dX5_enderOf_8 : decode cX5_enderOf 8 = .ok (.iload_n 3, 1) := by decide +kernel
theorem dX5_enderOf_9 : decode cX5_enderOf 9 = .ok (.aload_n 0, 1) := by decide +kernel
theorem dX5_enderOf_10 : decode cX5_enderOf 10 = .ok (.getfield 55, 3) := by decide +kernel
theorem dX5_enderOf_13 : decode cX5_enderOf 13 = .ok (.if_icmp .ge 37, 3) := by decide +kernel
theorem dX5_enderOf_16 : decode cX5_enderOf 16 = .ok (.aload_n 0, 1) := by decide +kernel
theorem dX5_enderOf_17 : decode cX5_enderOf 17 = .ok (.getfield 28, 3) := by decide +kernel
theorem dX5_enderOf_20 : decode cX5_enderOf 20 = .ok (.iload_n 2, 1) := by decide +kernel
theorem dX5_enderOf_21 : decode cX5_enderOf 21 = .ok (.iload_n 3, 1) := by decide +kernel
theorem dX5_enderOf_22 : decode cX5_enderOf 22 = .ok (.iadd, 1) := by decide +kernel
theorem dX5_enderOf_23 : decode cX5_enderOf 23 = .ok (.aload_n 0, 1) := by decide +kernel
theorem dX5_enderOf_24 : decode cX5_enderOf 24 = .ok (.getfield 55, 3) := by decide +kernel
theorem dX5_enderOf_27 : decode cX5_enderOf 27 = .ok (.irem, 1) := by decide +kernel
theorem dX5_enderOf_28 : decode cX5_enderOf 28 = .ok (.iaload, 1) := by decide +kernel
theorem dX5_enderOf_29 : decode cX5_enderOf 29 = .ok (.istore 4, 2) := by decide +kernel
theorem dX5_enderOf_31 : decode cX5_enderOf 31 = .ok (.aload_n 0, 1) := by decide +kernel
theorem dX5_enderOf_32 : decode cX5_enderOf 32 = .ok (.getfield 25, 3) := by decide +kernel
theorem dX5_enderOf_35 : decode cX5_enderOf 35 = .ok (.iload 4, 2) := by decide +kernel
theorem dX5_enderOf_37 : decode cX5_enderOf 37 = .ok (.iaload, 1) := by decide +kernel
theorem dX5_enderOf_38 : decode cX5_enderOf 38 = .ok (.ifCond .ne 6, 3) := by decide +kernel
theorem dX5_enderOf_41 : decode cX5_enderOf 41 = .ok (.iload 4, 2) := by decide +kernel
theorem dX5_enderOf_43 : decode cX5_enderOf 43 = .ok (.ireturn, 1) := by decide +kernel
theorem dX5_enderOf_44 : decode cX5_enderOf 44 = .ok (.iinc 3 1, 3) := by decide +kernel
theorem dX5_enderOf_47 : decode cX5_enderOf 47 = .ok (.goto (-39), 3) := by decide +kernel
theorem dX5_enderOf_50 : decode cX5_enderOf 50 = .ok (.bipush (-9), 2) := by decide +kernel
theorem dX5_enderOf_52 : decode cX5_enderOf 52 = .ok (.ireturn, 1) := by decide +kernel
theorem dX5_isEnded_0 : decode cX5_isEnded 0 = .ok (.aload_n 0, 1) := by decide +kernel
theorem dX5_isEnded_1 : decode cX5_isEnded 1 = .ok (.getfield 25, 3) := by decide +kernel
theorem dX5_isEnded_4 : decode cX5_isEnded 4 = .ok (.iload_n 1, 1) := by decide +kernel
theorem dX5_isEnded_5 : decode cX5_isEnded 5 = .ok (.iaload, 1) := by decide +kernel
theorem dX5_isEnded_6 : decode cX5_isEnded 6 = .ok (.ifCond .ne 15, 3) := by decide +kernel
theorem dX5_isEnded_9 : decode cX5_isEnded 9 = .ok (.aload_n 0, 1) := by decide +kernel
theorem dX5_isEnded_10 : decode cX5_isEnded 10 = .ok (.iload_n 1, 1) := by decide +kernel
theorem dX5_isEnded_11 : decode cX5_isEnded 11 = .ok (.invokevirtual 162, 3) := by decide +kernel
theorem dX5_isEnded_14 : decode cX5_isEnded 14 = .ok (.ifCond .lt 7, 3) := by decide +kernel
theorem dX5_isEnded_17 : decode cX5_isEnded 17 = .ok (.iconst 1, 1) := by decide +kernel
theorem dX5_isEnded_18 : decode cX5_isEnded 18 = .ok (.goto 4, 3) := by decide +kernel
theorem dX5_isEnded_21 : decode cX5_isEnded 21 = .ok (.iconst 0, 1) := by decide +kernel
theorem dX5_isEnded_22 : decode cX5_isEnded 22 = .ok (.ireturn, 1) := by decide +kernel
theorem dX5_endOf_0 : decode cX5_endOf 0 = .ok (.aload_n 0, 1) := by decide +kernel
theorem dX5_endOf_1 : decode cX5_endOf 1 = .ok (.aload_n 0, 1) := by decide +kernel
theorem dX5_endOf_2 : decode cX5_endOf 2 = .ok (.iload_n 1, 1) := by decide +kernel
theorem dX5_endOf_3 : decode cX5_endOf 3 = .ok (.invokevirtual 162, 3) := by decide +kernel
theorem dX5_endOf_6 : decode cX5_endOf 6 = .ok (.aload_n 0, 1) := by decide +kernel
theorem dX5_endOf_7 : decode cX5_endOf 7 = .ok (.iload_n 1, 1) := by decide +kernel
theorem dX5_endOf_8 : decode cX5_endOf 8 = .ok (.invokevirtual 165, 3) := by decide +kernel
theorem dX5_endOf_11 : decode cX5_endOf 11 = .ok (.invokevirtual 168, 3) := by decide +kernel
theorem dX5_endOf_14 : decode cX5_endOf 14 = .ok (.ireturn, 1) := by decide +kernel
theorem dX5_bookWorth_0 : decode cX5_bookWorth 0 = .ok (.aload_n 0, 1) := by decide +kernel
theorem dX5_bookWorth_1 : decode cX5_bookWorth 1 = .ok (.iload_n 1, 1) := by decide +kernel
theorem dX5_bookWorth_2 : decode cX5_bookWorth 2 = .ok (.invokevirtual 162, 3) := by decide +kernel
theorem dX5_bookWorth_5 : decode cX5_bookWorth 5 = .ok (.ifCond .ge 7, 3) := by decide +kernel
theorem dX5_bookWorth_8 : decode cX5_bookWorth 8 = .ok (.iconst 0, 1) := by decide +kernel
theorem dX5_bookWorth_9 : decode cX5_bookWorth 9 = .ok (.goto 16, 3) := by decide +kernel
theorem dX5_bookWorth_12 : decode cX5_bookWorth 12 = .ok (.aload_n 0, 1) := by decide +kernel
theorem dX5_bookWorth_13 : decode cX5_bookWorth 13 = .ok (.iload_n 1, 1) := by decide +kernel
theorem dX5_bookWorth_14 : decode cX5_bookWorth 14 = .ok (.invokevirtual 165, 3) := by decide +kernel
theorem dX5_bookWorth_17 : decode cX5_bookWorth 17 = .ok (.aload_n 0, 1) := by decide +kernel
theorem dX5_bookWorth_18 : decode cX5_bookWorth 18 = .ok (.iload_n 1, 1) := by decide +kernel
theorem dX5_bookWorth_19 : decode cX5_bookWorth 19 = .ok (.invokevirtual 171, 3) := by decide +kernel
theorem dX5_bookWorth_22 : decode cX5_bookWorth 22 = .ok (.invokestatic 174, 3) := by decide +kernel
theorem dX5_bookWorth_25 : decode cX5_bookWorth 25 = .ok (.ireturn, 1) := by decide +kernel
theorem dX5_allWorth_0 : decode cX5_allWorth 0 = .ok (.iconst 0, 1) := by decide +kernel
theorem dX5_allWorth_1 : decode cX5_allWorth 1 = .ok (.istore_n 1, 1) := by decide +kernel
theorem dX5_allWorth_2 : decode cX5_allWorth 2 = .ok (.iconst 0, 1) := by decide +kernel
theorem dX5_allWorth_3 : decode cX5_allWorth 3 = .ok (.istore_n 2, 1) := by decide +kernel
theorem dX5_allWorth_4 : decode cX5_allWorth 4 = .ok (.iload_n 2, 1) := by decide +kernel
theorem dX5_allWorth_5 : decode cX5_allWorth 5 = .ok (.aload_n 0, 1) := by decide +kernel
theorem dX5_allWorth_6 : decode cX5_allWorth 6 = .ok (.getfield 55, 3) := by decide +kernel
theorem dX5_allWorth_9 : decode cX5_allWorth 9 = .ok (.if_icmp .ge 29, 3) := by decide +kernel
theorem dX5_allWorth_12 : decode cX5_allWorth 12 = .ok (.iload_n 1, 1) := by decide +kernel
theorem dX5_allWorth_13 : decode cX5_allWorth 13 = .ok (.aload_n 0, 1) := by decide +kernel
theorem dX5_allWorth_14 : decode cX5_allWorth 14 = .ok (.iload_n 2, 1) := by decide +kernel
theorem dX5_allWorth_15 : decode cX5_allWorth 15 = .ok (.invokevirtual 177, 3) := by decide +kernel
theorem dX5_allWorth_18 : decode cX5_allWorth 18 = .ok (.ifCond .eq 11, 3) := by decide +kernel
theorem dX5_allWorth_21 : decode cX5_allWorth 21 = .ok (.aload_n 0, 1) := by decide +kernel
theorem dX5_allWorth_22 : decode cX5_allWorth 22 = .ok (.iload_n 2, 1) := by decide +kernel
theorem dX5_allWorth_23 : decode cX5_allWorth 23 = .ok (.invokevirtual 180, 3) := by decide +kernel
theorem dX5_allWorth_26 : decode cX5_allWorth 26 = .ok (.goto 4, 3) := by decide +kernel
theorem dX5_allWorth_29 : decode cX5_allWorth 29 = .ok (.iconst 0, 1) := by decide +kernel
theorem dX5_allWorth_30 : decode cX5_allWorth 30 = .ok (.iadd, 1) := by decide +kernel
theorem dX5_allWorth_31 : decode cX5_allWorth 31 = .ok (.istore_n 1, 1) := by decide +kernel
theorem dX5_allWorth_32 : decode cX5_allWorth 32 = .ok (.iinc 2 1, 3) := by decide +kernel
theorem dX5_allWorth_35 : decode cX5_allWorth 35 = .ok (.goto (-31), 3) := by decide +kernel
theorem dX5_allWorth_38 : decode cX5_allWorth 38 = .ok (.iload_n 1, 1) := by decide +kernel
theorem dX5_allWorth_39 : decode cX5_allWorth 39 = .ok (.ireturn, 1) := by decide +kernel
theorem dX5_areTwo_0 : decode cX5_areTwo 0 = .ok (.aload_n 0, 1) := by decide +kernel
theorem dX5_areTwo_1 : decode cX5_areTwo 1 = .ok (.iload_n 1, 1) := by decide +kernel
theorem dX5_areTwo_2 : decode cX5_areTwo 2 = .ok (.invokevirtual 108, 3) := by decide +kernel
theorem dX5_areTwo_5 : decode cX5_areTwo 5 = .ok (.ifCond .eq 20, 3) := by decide +kernel
theorem dX5_areTwo_8 : decode cX5_areTwo 8 = .ok (.aload_n 0, 1) := by decide +kernel
theorem dX5_areTwo_9 : decode cX5_areTwo 9 = .ok (.iload_n 2, 1) := by decide +kernel
theorem dX5_areTwo_10 : decode cX5_areTwo 10 = .ok (.invokevirtual 108, 3) := by decide +kernel
theorem dX5_areTwo_13 : decode cX5_areTwo 13 = .ok (.ifCond .eq 12, 3) := by decide +kernel
theorem dX5_areTwo_16 : decode cX5_areTwo 16 = .ok (.iload_n 1, 1) := by decide +kernel
theorem dX5_areTwo_17 : decode cX5_areTwo 17 = .ok (.iload_n 2, 1) := by decide +kernel
theorem dX5_areTwo_18 : decode cX5_areTwo 18 = .ok (.if_icmp .eq 7, 3) := by decide +kernel
theorem dX5_areTwo_21 : decode cX5_areTwo 21 = .ok (.iconst 1, 1) := by decide +kernel
theorem dX5_areTwo_22 : decode cX5_areTwo 22 = .ok (.goto 4, 3) := by decide +kernel
theorem dX5_areTwo_25 : decode cX5_areTwo 25 = .ok (.iconst 0, 1) := by decide +kernel
theorem dX5_areTwo_26 : decode cX5_areTwo 26 = .ok (.ireturn, 1) := by decide +kernel
theorem dX5_swaps_0 : decode cX5_swaps 0 = .ok (.aload_n 0, 1) := by decide +kernel
theorem dX5_swaps_1 : decode cX5_swaps 1 = .ok (.iload_n 1, 1) := by decide +kernel
theorem dX5_swaps_2 : decode cX5_swaps 2 = .ok (.invokevirtual 159, 3) := by decide +kernel
theorem dX5_swaps_5 : decode cX5_swaps 5 = .ok (.istore_n 3, 1) := by decide +kernel
theorem dX5_swaps_6 : decode cX5_swaps 6 = .ok (.aload_n 0, 1) := by decide +kernel
theorem dX5_swaps_7 : decode cX5_swaps 7 = .ok (.iload_n 2, 1) := by decide +kernel
theorem dX5_swaps_8 : decode cX5_swaps 8 = .ok (.invokevirtual 159, 3) := by decide +kernel
theorem dX5_swaps_11 : decode cX5_swaps 11 = .ok (.istore 4, 2) := by decide +kernel
theorem dX5_swaps_13 : decode cX5_swaps 13 = .ok (.aload_n 0, 1) := by decide +kernel
theorem dX5_swaps_14 : decode cX5_swaps 14 = .ok (.getfield 28, 3) := by decide +kernel
theorem dX5_swaps_17 : decode cX5_swaps 17 = .ok (.iload_n 3, 1) := by decide +kernel
theorem dX5_swaps_18 : decode cX5_swaps 18 = .ok (.iload_n 2, 1) := by decide +kernel
theorem dX5_swaps_19 : decode cX5_swaps 19 = .ok (.iastore, 1) := by decide +kernel
theorem dX5_swaps_20 : decode cX5_swaps 20 = .ok (.aload_n 0, 1) := by decide +kernel
theorem dX5_swaps_21 : decode cX5_swaps 21 = .ok (.getfield 28, 3) := by decide +kernel
theorem dX5_swaps_24 : decode cX5_swaps 24 = .ok (.iload 4, 2) := by decide +kernel
theorem dX5_swaps_26 : decode cX5_swaps 26 = .ok (.iload_n 1, 1) := by decide +kernel
theorem dX5_swaps_27 : decode cX5_swaps 27 = .ok (.iastore, 1) := by decide +kernel
theorem dX5_swaps_28 : decode cX5_swaps 28 = .ok (.return_, 1) := by decide +kernel
theorem dX5_goesYear_0 : decode cX5_goesYear 0 = .ok (.aload_n 0, 1) := by decide +kernel
theorem dX5_goesYear_1 : decode cX5_goesYear 1 = .ok (.dup, 1) := by decide +kernel
theorem dX5_goesYear_2 : decode cX5_goesYear 2 = .ok (.getfield 101, 3) := by decide +kernel
theorem dX5_goesYear_5 : decode cX5_goesYear 5 = .ok (.iconst 1, 1) := by decide +kernel
theorem dX5_goesYear_6 : decode cX5_goesYear 6 = .ok (.iadd, 1) := by decide +kernel
theorem dX5_goesYear_7 : decode cX5_goesYear 7 = .ok (.putfield 101, 3) := by decide +kernel
theorem dX5_goesYear_10 : decode cX5_goesYear 10 = .ok (.iconst 0, 1) := by decide +kernel
theorem dX5_goesYear_11 : decode cX5_goesYear 11 = .ok (.istore_n 2, 1) := by decide +kernel
theorem dX5_goesYear_12 : decode cX5_goesYear 12 = .ok (.iload_n 2, 1) := by decide +kernel
theorem dX5_goesYear_13 : decode cX5_goesYear 13 = .ok (.aload_n 0, 1) := by decide +kernel
theorem dX5_goesYear_14 : decode cX5_goesYear 14 = .ok (.getfield 55, 3) := by decide +kernel
theorem dX5_goesYear_17 : decode cX5_goesYear 17 = .ok (.if_icmp .ge 78, 3) := by decide +kernel
theorem dX5_goesYear_20 : decode cX5_goesYear 20 = .ok (.iload_n 1, 1) := by decide +kernel
theorem dX5_goesYear_21 : decode cX5_goesYear 21 = .ok (.ifCond .ne 74, 3) := by decide +kernel
theorem dX5_goesYear_24 : decode cX5_goesYear 24 = .ok (.aload_n 0, 1) := by decide +kernel
theorem dX5_goesYear_25 : decode cX5_goesYear 25 = .ok (.iload_n 2, 1) := by decide +kernel
theorem dX5_goesYear_26 : decode cX5_goesYear 26 = .ok (.invokevirtual 177, 3) := by decide +kernel
theorem dX5_goesYear_29 : decode cX5_goesYear 29 = .ok (.ifCond .ne 6, 3) := by decide +kernel
theorem dX5_goesYear_32 : decode cX5_goesYear 32 = .ok (.goto 57, 3) := by decide +kernel
theorem dX5_goesYear_35 : decode cX5_goesYear 35 = .ok (.aload_n 0, 1) := by decide +kernel
theorem dX5_goesYear_36 : decode cX5_goesYear 36 = .ok (.iload_n 2, 1) := by decide +kernel
theorem dX5_goesYear_37 : decode cX5_goesYear 37 = .ok (.invokevirtual 162, 3) := by decide +kernel
theorem dX5_goesYear_40 : decode cX5_goesYear 40 = .ok (.istore_n 3, 1) := by decide +kernel
theorem dX5_goesYear_41 : decode cX5_goesYear 41 = .ok (.aload_n 0, 1) := by decide +kernel
theorem dX5_goesYear_42 : decode cX5_goesYear 42 = .ok (.getfield 22, 3) := by decide +kernel
theorem dX5_goesYear_45 : decode cX5_goesYear 45 = .ok (.iload_n 2, 1) := by decide +kernel
theorem dX5_goesYear_46 : decode cX5_goesYear 46 = .ok (.aload_n 0, 1) := by decide +kernel
theorem dX5_goesYear_47 : decode cX5_goesYear 47 = .ok (.getfield 22, 3) := by decide +kernel
theorem dX5_goesYear_50 : decode cX5_goesYear 50 = .ok (.iload_n 2, 1) := by decide +kernel
theorem dX5_goesYear_51 : decode cX5_goesYear 51 = .ok (.iaload, 1) := by decide +kernel
theorem dX5_goesYear_52 : decode cX5_goesYear 52 = .ok (.aload_n 0, 1) := by decide +kernel
theorem dX5_goesYear_53 : decode cX5_goesYear 53 = .ok (.iload_n 2, 1) := by decide +kernel
theorem dX5_goesYear_54 : decode cX5_goesYear 54 = .ok (.invokevirtual 180, 3) := by decide +kernel
theorem dX5_goesYear_57 : decode cX5_goesYear 57 = .ok (.iadd, 1) := by decide +kernel
theorem dX5_goesYear_58 : decode cX5_goesYear 58 = .ok (.iconst 0, 1) := by decide +kernel
theorem dX5_goesYear_59 : decode cX5_goesYear 59 = .ok (.bipush 99, 2) := by decide +kernel
theorem dX5_goesYear_61 : decode cX5_goesYear 61 = .ok (.invokestatic 183, 3) := by decide +kernel
theorem dX5_goesYear_64 : decode cX5_goesYear 64 = .ok (.iastore, 1) := by decide +kernel
theorem dX5_goesYear_65 : decode cX5_goesYear 65 = .ok (.aload_n 0, 1) := by decide +kernel
theorem dX5_goesYear_66 : decode cX5_goesYear 66 = .ok (.getfield 22, 3) := by decide +kernel
theorem dX5_goesYear_69 : decode cX5_goesYear 69 = .ok (.iload_n 3, 1) := by decide +kernel
theorem dX5_goesYear_70 : decode cX5_goesYear 70 = .ok (.aload_n 0, 1) := by decide +kernel
theorem dX5_goesYear_71 : decode cX5_goesYear 71 = .ok (.getfield 22, 3) := by decide +kernel
theorem dX5_goesYear_74 : decode cX5_goesYear 74 = .ok (.iload_n 3, 1) := by decide +kernel
theorem dX5_goesYear_75 : decode cX5_goesYear 75 = .ok (.iaload, 1) := by decide +kernel
theorem dX5_goesYear_76 : decode cX5_goesYear 76 = .ok (.aload_n 0, 1) := by decide +kernel
theorem dX5_goesYear_77 : decode cX5_goesYear 77 = .ok (.iload_n 3, 1) := by decide +kernel
theorem dX5_goesYear_78 : decode cX5_goesYear 78 = .ok (.invokevirtual 186, 3) := by decide +kernel
theorem dX5_goesYear_81 : decode cX5_goesYear 81 = .ok (.iadd, 1) := by decide +kernel
theorem dX5_goesYear_82 : decode cX5_goesYear 82 = .ok (.iconst 0, 1) := by decide +kernel
theorem dX5_goesYear_83 : decode cX5_goesYear 83 = .ok (.bipush 99, 2) := by decide +kernel
theorem dX5_goesYear_85 : decode cX5_goesYear 85 = .ok (.invokestatic 183, 3) := by decide +kernel
theorem dX5_goesYear_88 : decode cX5_goesYear 88 = .ok (.iastore, 1) := by decide +kernel
theorem dX5_goesYear_89 : decode cX5_goesYear 89 = .ok (.iinc 2 1, 3) := by decide +kernel
theorem dX5_goesYear_92 : decode cX5_goesYear 92 = .ok (.goto (-80), 3) := by decide +kernel
theorem dX5_goesYear_95 : decode cX5_goesYear 95 = .ok (.return_, 1) := by decide +kernel
theorem dX5_goes_0 : decode cX5_goes 0 = .ok (.iconst 0, 1) := by decide +kernel
theorem dX5_goes_1 : decode cX5_goes 1 = .ok (.istore_n 2, 1) := by decide +kernel
theorem dX5_goes_2 : decode cX5_goes 2 = .ok (.iload_n 2, 1) := by decide +kernel
theorem dX5_goes_3 : decode cX5_goes 3 = .ok (.iload_n 1, 1) := by decide +kernel
theorem dX5_goes_4 : decode cX5_goes 4 = .ok (.if_icmp .ge 14, 3) := by decide +kernel
theorem dX5_goes_7 : decode cX5_goes 7 = .ok (.aload_n 0, 1) := by decide +kernel
theorem dX5_goes_8 : decode cX5_goes 8 = .ok (.iconst 0, 1) := by decide +kernel
theorem dX5_goes_9 : decode cX5_goes 9 = .ok (.invokevirtual 189, 3) := by decide +kernel
theorem dX5_goes_12 : decode cX5_goes 12 = .ok (.iinc 2 1, 3) := by decide +kernel
theorem dX5_goes_15 : decode cX5_goes 15 = .ok (.goto (-13), 3) := by decide +kernel
theorem dX5_goes_18 : decode cX5_goes 18 = .ok (.return_, 1) := by decide +kernel
theorem dX5_allOf_0 : decode cX5_allOf 0 = .ok (.iconst 0, 1) := by decide +kernel
theorem dX5_allOf_1 : decode cX5_allOf 1 = .ok (.istore_n 2, 1) := by decide +kernel
theorem dX5_allOf_2 : decode cX5_allOf 2 = .ok (.iconst 0, 1) := by decide +kernel
theorem dX5_allOf_3 : decode cX5_allOf 3 = .ok (.istore_n 3, 1) := by decide +kernel
theorem dX5_allOf_4 : decode cX5_allOf 4 = .ok (.iload_n 3, 1) := by decide +kernel
theorem dX5_allOf_5 : decode cX5_allOf 5 = .ok (.aload_n 0, 1) := by decide +kernel
theorem dX5_allOf_6 : decode cX5_allOf 6 = .ok (.getfield 55, 3) := by decide +kernel
theorem dX5_allOf_9 : decode cX5_allOf 9 = .ok (.if_icmp .ge 15, 3) := by decide +kernel
theorem dX5_allOf_12 : decode cX5_allOf 12 = .ok (.iload_n 2, 1) := by decide +kernel
theorem dX5_allOf_13 : decode cX5_allOf 13 = .ok (.aload_n 1, 1) := by decide +kernel
theorem dX5_allOf_14 : decode cX5_allOf 14 = .ok (.iload_n 3, 1) := by decide +kernel
theorem dX5_allOf_15 : decode cX5_allOf 15 = .ok (.iaload, 1) := by decide +kernel
theorem dX5_allOf_16 : decode cX5_allOf 16 = .ok (.iadd, 1) := by decide +kernel
theorem dX5_allOf_17 : decode cX5_allOf 17 = .ok (.istore_n 2, 1) := by decide +kernel
theorem dX5_allOf_18 : decode cX5_allOf 18 = .ok (.iinc 3 1, 3) := by decide +kernel
theorem dX5_allOf_21 : decode cX5_allOf 21 = .ok (.goto (-17), 3) := by decide +kernel
theorem dX5_allOf_24 : decode cX5_allOf 24 = .ok (.iload_n 2, 1) := by decide +kernel
theorem dX5_allOf_25 : decode cX5_allOf 25 = .ok (.ireturn, 1) := by decide +kernel
theorem dX5_writing_0 : decode cX5_writing 0 = .ok (.iconst 0, 1) := by decide +kernel
theorem dX5_writing_1 : decode cX5_writing 1 = .ok (.istore_n 1, 1) := by decide +kernel
theorem dX5_writing_2 : decode cX5_writing 2 = .ok (.iconst 0, 1) := by decide +kernel
theorem dX5_writing_3 : decode cX5_writing 3 = .ok (.istore_n 2, 1) := by decide +kernel
theorem dX5_writing_4 : decode cX5_writing 4 = .ok (.iload_n 2, 1) := by decide +kernel
theorem dX5_writing_5 : decode cX5_writing 5 = .ok (.aload_n 0, 1) := by decide +kernel
theorem dX5_writing_6 : decode cX5_writing 6 = .ok (.getfield 55, 3) := by decide +kernel
theorem dX5_writing_9 : decode cX5_writing 9 = .ok (.if_icmp .ge 22, 3) := by decide +kernel
theorem dX5_writing_12 : decode cX5_writing 12 = .ok (.iload_n 1, 1) := by decide +kernel
theorem dX5_writing_13 : decode cX5_writing 13 = .ok (.iconst 1, 1) := by decide +kernel
theorem dX5_writing_14 : decode cX5_writing 14 = .ok (.aload_n 0, 1) := by decide +kernel
theorem dX5_writing_15 : decode cX5_writing 15 = .ok (.getfield 25, 3) := by decide +kernel
theorem dX5_writing_18 : decode cX5_writing 18 = .ok (.iload_n 2, 1) := by decide +kernel
theorem dX5_writing_19 : decode cX5_writing 19 = .ok (.iaload, 1) := by decide +kernel
theorem dX5_writing_20 : decode cX5_writing 20 = .ok (.isub, 1) := by decide +kernel
theorem dX5_writing_21 : decode cX5_writing 21 = .ok (.iload_n 2, 1) := by decide +kernel
theorem dX5_writing_22 : decode cX5_writing 22 = .ok (.ishl, 1) := by decide +kernel
theorem dX5_writing_23 : decode cX5_writing 23 = .ok (.ior, 1) := by decide +kernel
theorem dX5_writing_24 : decode cX5_writing 24 = .ok (.istore_n 1, 1) := by decide +kernel
theorem dX5_writing_25 : decode cX5_writing 25 = .ok (.iinc 2 1, 3) := by decide +kernel
theorem dX5_writing_28 : decode cX5_writing 28 = .ok (.goto (-24), 3) := by decide +kernel
theorem dX5_writing_31 : decode cX5_writing 31 = .ok (.iload_n 1, 1) := by decide +kernel
theorem dX5_writing_32 : decode cX5_writing 32 = .ok (.ireturn, 1) := by decide +kernel
theorem dX5_writer_0 : decode cX5_writer 0 = .ok (.aload_n 0, 1) := by decide +kernel
theorem dX5_writer_1 : decode cX5_writer 1 = .ok (.iload_n 1, 1) := by decide +kernel
theorem dX5_writer_2 : decode cX5_writer 2 = .ok (.invokevirtual 108, 3) := by decide +kernel
theorem dX5_writer_5 : decode cX5_writer 5 = .ok (.ifCond .ne 9, 3) := by decide +kernel
theorem dX5_writer_8 : decode cX5_writer 8 = .ok (.aload_n 0, 1) := by decide +kernel
theorem dX5_writer_9 : decode cX5_writer 9 = .ok (.iconst (-1), 1) := by decide +kernel
theorem dX5_writer_10 : decode cX5_writer 10 = .ok (.invokevirtual 69, 3) := by decide +kernel
theorem dX5_writer_13 : decode cX5_writer 13 = .ok (.ireturn, 1) := by decide +kernel
theorem dX5_writer_14 : decode cX5_writer 14 = .ok (.iload_n 2, 1) := by decide +kernel
theorem dX5_writer_15 : decode cX5_writer 15 = .ok (.tableswitch 90 0 6 #[41, 48, 55, 62, 69, 78, 84], 41) := by decide +kernel
theorem dX5_writer_56 : decode cX5_writer 56 = .ok (.aload_n 0, 1) := by decide +kernel
theorem dX5_writer_57 : decode cX5_writer 57 = .ok (.getfield 13, 3) := by decide +kernel
theorem dX5_writer_60 : decode cX5_writer 60 = .ok (.iload_n 1, 1) := by decide +kernel
theorem dX5_writer_61 : decode cX5_writer 61 = .ok (.iaload, 1) := by decide +kernel
theorem dX5_writer_62 : decode cX5_writer 62 = .ok (.ireturn, 1) := by decide +kernel
theorem dX5_writer_63 : decode cX5_writer 63 = .ok (.aload_n 0, 1) := by decide +kernel
theorem dX5_writer_64 : decode cX5_writer 64 = .ok (.getfield 16, 3) := by decide +kernel
theorem dX5_writer_67 : decode cX5_writer 67 = .ok (.iload_n 1, 1) := by decide +kernel
theorem dX5_writer_68 : decode cX5_writer 68 = .ok (.iaload, 1) := by decide +kernel
theorem dX5_writer_69 : decode cX5_writer 69 = .ok (.ireturn, 1) := by decide +kernel
theorem dX5_writer_70 : decode cX5_writer 70 = .ok (.aload_n 0, 1) := by decide +kernel
theorem dX5_writer_71 : decode cX5_writer 71 = .ok (.getfield 19, 3) := by decide +kernel
theorem dX5_writer_74 : decode cX5_writer 74 = .ok (.iload_n 1, 1) := by decide +kernel
theorem dX5_writer_75 : decode cX5_writer 75 = .ok (.iaload, 1) := by decide +kernel
theorem dX5_writer_76 : decode cX5_writer 76 = .ok (.ireturn, 1) := by decide +kernel
theorem dX5_writer_77 : decode cX5_writer 77 = .ok (.aload_n 0, 1) := by decide +kernel
theorem dX5_writer_78 : decode cX5_writer 78 = .ok (.getfield 22, 3) := by decide +kernel
theorem dX5_writer_81 : decode cX5_writer 81 = .ok (.iload_n 1, 1) := by decide +kernel
theorem dX5_writer_82 : decode cX5_writer 82 = .ok (.iaload, 1) := by decide +kernel
theorem dX5_writer_83 : decode cX5_writer 83 = .ok (.ireturn, 1) := by decide +kernel
theorem dX5_writer_84 : decode cX5_writer 84 = .ok (.iconst 1, 1) := by decide +kernel
theorem dX5_writer_85 : decode cX5_writer 85 = .ok (.aload_n 0, 1) := by decide +kernel
theorem dX5_writer_86 : decode cX5_writer 86 = .ok (.getfield 25, 3) := by decide +kernel
theorem dX5_writer_89 : decode cX5_writer 89 = .ok (.iload_n 1, 1) := by decide +kernel
theorem dX5_writer_90 : decode cX5_writer 90 = .ok (.iaload, 1) := by decide +kernel
theorem dX5_writer_91 : decode cX5_writer 91 = .ok (.isub, 1) := by decide +kernel
theorem dX5_writer_92 : decode cX5_writer 92 = .ok (.ireturn, 1) := by decide +kernel
theorem dX5_writer_93 : decode cX5_writer 93 = .ok (.aload_n 0, 1) := by decide +kernel
theorem dX5_writer_94 : decode cX5_writer 94 = .ok (.iload_n 1, 1) := by decide +kernel
theorem dX5_writer_95 : decode cX5_writer 95 = .ok (.invokevirtual 159, 3) := by decide +kernel
theorem dX5_writer_98 : decode cX5_writer 98 = .ok (.ireturn, 1) := by decide +kernel
theorem dX5_writer_99 : decode cX5_writer 99 = .ok (.aload_n 0, 1) := by decide +kernel
theorem dX5_writer_100 : decode cX5_writer 100 = .ok (.iload_n 1, 1) := by decide +kernel
theorem dX5_writer_101 : decode cX5_writer 101 = .ok (.invokevirtual 162, 3) := by decide +kernel
theorem dX5_writer_104 : decode cX5_writer 104 = .ok (.ireturn, 1) := by decide +kernel
theorem dX5_writer_105 : decode cX5_writer 105 = .ok (.aload_n 0, 1) := by decide +kernel
theorem dX5_writer_106 : decode cX5_writer 106 = .ok (.bipush (-2), 2) := by decide +kernel
theorem dX5_writer_108 : decode cX5_writer 108 = .ok (.invokevirtual 69, 3) := by decide +kernel
theorem dX5_writer_111 : decode cX5_writer 111 = .ok (.ireturn, 1) := by decide +kernel
theorem dX5_place_0 : decode cX5_place 0 = .ok (.iload_n 1, 1) := by decide +kernel
theorem dX5_place_1 : decode cX5_place 1 = .ok (.ifCond .ge 10, 3) := by decide +kernel
theorem dX5_place_4 : decode cX5_place 4 = .ok (.aload_n 0, 1) := by decide +kernel
theorem dX5_place_5 : decode cX5_place 5 = .ok (.bipush (-4), 2) := by decide +kernel
theorem dX5_place_7 : decode cX5_place 7 = .ok (.invokevirtual 69, 3) := by decide +kernel
theorem dX5_place_10 : decode cX5_place 10 = .ok (.ireturn, 1) := by decide +kernel
theorem dX5_place_11 : decode cX5_place 11 = .ok (.iload_n 1, 1) := by decide +kernel
theorem dX5_place_12 : decode cX5_place 12 = .ok (.aload_n 0, 1) := by decide +kernel
theorem dX5_place_13 : decode cX5_place 13 = .ok (.getfield 55, 3) := by decide +kernel
theorem dX5_place_16 : decode cX5_place 16 = .ok (.if_icmp .ge 12, 3) := by decide +kernel
theorem dX5_place_19 : decode cX5_place 19 = .ok (.aload_n 0, 1) := by decide +kernel
theorem dX5_place_20 : decode cX5_place 20 = .ok (.getfield 28, 3) := by decide +kernel
theorem dX5_place_23 : decode cX5_place 23 = .ok (.iload_n 1, 1) := by decide +kernel
theorem dX5_place_24 : decode cX5_place 24 = .ok (.iaload, 1) := by decide +kernel
theorem dX5_place_25 : decode cX5_place 25 = .ok (.goto 5, 3) := by decide +kernel
theorem dX5_place_28 : decode cX5_place 28 = .ok (.bipush (-9), 2) := by decide +kernel
theorem dX5_place_30 : decode cX5_place 30 = .ok (.ireturn, 1) := by decide +kernel
theorem dX5_book_0 : decode cX5_book 0 = .ok (.aload_n 0, 1) := by decide +kernel
theorem dX5_book_1 : decode cX5_book 1 = .ok (.iload_n 1, 1) := by decide +kernel
theorem dX5_book_2 : decode cX5_book 2 = .ok (.invokevirtual 108, 3) := by decide +kernel
theorem dX5_book_5 : decode cX5_book 5 = .ok (.ifCond .ne 7, 3) := by decide +kernel
theorem dX5_book_8 : decode cX5_book 8 = .ok (.iconst (-1), 1) := by decide +kernel
theorem dX5_book_9 : decode cX5_book 9 = .ok (.goto 33, 3) := by decide +kernel
theorem dX5_book_12 : decode cX5_book 12 = .ok (.iload_n 2, 1) := by decide +kernel
theorem dX5_book_13 : decode cX5_book 13 = .ok (.iconst 0, 1) := by decide +kernel
theorem dX5_book_14 : decode cX5_book 14 = .ok (.iconst 2, 1) := by decide +kernel
theorem dX5_book_15 : decode cX5_book 15 = .ok (.invokestatic 80, 3) := by decide +kernel
theorem dX5_book_18 : decode cX5_book 18 = .ok (.ifCond .ne 8, 3) := by decide +kernel
theorem dX5_book_21 : decode cX5_book 21 = .ok (.bipush (-2), 2) := by decide +kernel
theorem dX5_book_23 : decode cX5_book 23 = .ok (.goto 19, 3) := by decide +kernel
theorem dX5_book_26 : decode cX5_book 26 = .ok (.aload_n 0, 1) := by decide +kernel
theorem dX5_book_27 : decode cX5_book 27 = .ok (.getfield 25, 3) := by decide +kernel
theorem dX5_book_30 : decode cX5_book 30 = .ok (.iload_n 1, 1) := by decide +kernel
theorem dX5_book_31 : decode cX5_book 31 = .ok (.iaload, 1) := by decide +kernel
theorem dX5_book_32 : decode cX5_book 32 = .ok (.iconst 1, 1) := by decide +kernel
theorem dX5_book_33 : decode cX5_book 33 = .ok (.if_icmp .ne 8, 3) := by decide +kernel
theorem dX5_book_36 : decode cX5_book 36 = .ok (.bipush (-3), 2) := by decide +kernel
theorem dX5_book_38 : decode cX5_book 38 = .ok (.goto 4, 3) := by decide +kernel
theorem dX5_book_41 : decode cX5_book 41 = .ok (.iconst 0, 1) := by decide +kernel
theorem dX5_book_42 : decode cX5_book 42 = .ok (.istore_n 3, 1) := by decide +kernel
theorem dX5_book_43 : decode cX5_book 43 = .ok (.iload_n 3, 1) := by decide +kernel
theorem dX5_book_44 : decode cX5_book 44 = .ok (.ifCond .eq 9, 3) := by decide +kernel
theorem dX5_book_47 : decode cX5_book 47 = .ok (.aload_n 0, 1) := by decide +kernel
theorem dX5_book_48 : decode cX5_book 48 = .ok (.iload_n 3, 1) := by decide +kernel
theorem dX5_book_49 : decode cX5_book 49 = .ok (.invokevirtual 193, 3) := by decide +kernel
theorem dX5_book_52 : decode cX5_book 52 = .ok (.ireturn, 1) := by decide +kernel
theorem dX5_book_53 : decode cX5_book 53 = .ok (.iload_n 2, 1) := by decide +kernel
theorem dX5_book_54 : decode cX5_book 54 = .ok (.ifCond .ne 11, 3) := by decide +kernel
theorem dX5_book_57 : decode cX5_book 57 = .ok (.aload_n 0, 1) := by decide +kernel
theorem dX5_book_58 : decode cX5_book 58 = .ok (.iload_n 1, 1) := by decide +kernel
theorem dX5_book_59 : decode cX5_book 59 = .ok (.invokevirtual 165, 3) := by decide +kernel
theorem dX5_book_62 : decode cX5_book 62 = .ok (.goto 34, 3) := by decide +kernel
theorem dX5_book_65 : decode cX5_book 65 = .ok (.iload_n 2, 1) := by decide +kernel
theorem dX5_book_66 : decode cX5_book 66 = .ok (.iconst 2, 1) := by decide +kernel
theorem dX5_book_67 : decode cX5_book 67 = .ok (.if_icmp .ne 11, 3) := by decide +kernel
theorem dX5_book_70 : decode cX5_book 70 = .ok (.aload_n 0, 1) := by decide +kernel
theorem dX5_book_71 : decode cX5_book 71 = .ok (.iload_n 1, 1) := by decide +kernel
theorem dX5_book_72 : decode cX5_book 72 = .ok (.invokevirtual 180, 3) := by decide +kernel
theorem dX5_book_75 : decode cX5_book 75 = .ok (.goto 21, 3) := by decide +kernel
theorem dX5_book_78 : decode cX5_book 78 = .ok (.aload_n 0, 1) := by decide +kernel
theorem dX5_book_79 : decode cX5_book 79 = .ok (.iload_n 1, 1) := by decide +kernel
theorem dX5_book_80 : decode cX5_book 80 = .ok (.invokevirtual 162, 3) := by decide +kernel
theorem dX5_book_83 : decode cX5_book 83 = .ok (.ifCond .ge 8, 3) := by decide +kernel
theorem dX5_book_86 : decode cX5_book 86 = .ok (.bipush (-9), 2) := by decide +kernel
theorem dX5_book_88 : decode cX5_book 88 = .ok (.goto 8, 3) := by decide +kernel
theorem dX5_book_91 : decode cX5_book 91 = .ok (.aload_n 0, 1) := by decide +kernel
theorem dX5_book_92 : decode cX5_book 92 = .ok (.iload_n 1, 1) := by decide +kernel
theorem dX5_book_93 : decode cX5_book 93 = .ok (.invokevirtual 171, 3) := by decide +kernel
theorem dX5_book_96 : decode cX5_book 96 = .ok (.ireturn, 1) := by decide +kernel
theorem dX5_changes_0 : decode cX5_changes 0 = .ok (.aload_n 0, 1) := by decide +kernel
theorem dX5_changes_1 : decode cX5_changes 1 = .ok (.iload_n 1, 1) := by decide +kernel
theorem dX5_changes_2 : decode cX5_changes 2 = .ok (.iload_n 2, 1) := by decide +kernel
theorem dX5_changes_3 : decode cX5_changes 3 = .ok (.invokevirtual 114, 3) := by decide +kernel
theorem dX5_changes_6 : decode cX5_changes 6 = .ok (.ifCond .ne 9, 3) := by decide +kernel
theorem dX5_changes_9 : decode cX5_changes 9 = .ok (.aload_n 0, 1) := by decide +kernel
theorem dX5_changes_10 : decode cX5_changes 10 = .ok (.iconst (-1), 1) := by decide +kernel
theorem dX5_changes_11 : decode cX5_changes 11 = .ok (.invokevirtual 69, 3) := by decide +kernel
theorem dX5_changes_14 : decode cX5_changes 14 = .ok (.ireturn, 1) := by decide +kernel
theorem dX5_changes_15 : decode cX5_changes 15 = .ok (.aload_n 0, 1) := by decide +kernel
theorem dX5_changes_16 : decode cX5_changes 16 = .ok (.iload_n 1, 1) := by decide +kernel
theorem dX5_changes_17 : decode cX5_changes 17 = .ok (.iload_n 2, 1) := by decide +kernel
theorem dX5_changes_18 : decode cX5_changes 18 = .ok (.invokevirtual 117, 3) := by decide +kernel
theorem dX5_changes_21 : decode cX5_changes 21 = .ok (.aload_n 0, 1) := by decide +kernel
theorem dX5_changes_22 : decode cX5_changes 22 = .ok (.iload_n 1, 1) := by decide +kernel
theorem dX5_changes_23 : decode cX5_changes 23 = .ok (.invokevirtual 159, 3) := by decide +kernel
theorem dX5_changes_26 : decode cX5_changes 26 = .ok (.ireturn, 1) := by decide +kernel
theorem dX5_hushes_0 : decode cX5_hushes 0 = .ok (.aload_n 0, 1) := by decide +kernel
theorem dX5_hushes_1 : decode cX5_hushes 1 = .ok (.iload_n 1, 1) := by decide +kernel
theorem dX5_hushes_2 : decode cX5_hushes 2 = .ok (.invokevirtual 108, 3) := by decide +kernel
theorem dX5_hushes_5 : decode cX5_hushes 5 = .ok (.ifCond .ne 9, 3) := by decide +kernel
theorem dX5_hushes_8 : decode cX5_hushes 8 = .ok (.aload_n 0, 1) := by decide +kernel
theorem dX5_hushes_9 : decode cX5_hushes 9 = .ok (.iconst (-1), 1) := by decide +kernel
theorem dX5_hushes_10 : decode cX5_hushes 10 = .ok (.invokevirtual 69, 3) := by decide +kernel
theorem dX5_hushes_13 : decode cX5_hushes 13 = .ok (.ireturn, 1) := by decide +kernel
theorem dX5_hushes_14 : decode cX5_hushes 14 = .ok (.aload_n 0, 1) := by decide +kernel
theorem dX5_hushes_15 : decode cX5_hushes 15 = .ok (.getfield 25, 3) := by decide +kernel
theorem dX5_hushes_18 : decode cX5_hushes 18 = .ok (.iload_n 1, 1) := by decide +kernel
theorem dX5_hushes_19 : decode cX5_hushes 19 = .ok (.iconst 1, 1) := by decide +kernel
theorem dX5_hushes_20 : decode cX5_hushes 20 = .ok (.aload_n 0, 1) := by decide +kernel
theorem dX5_hushes_21 : decode cX5_hushes 21 = .ok (.getfield 25, 3) := by decide +kernel
theorem dX5_hushes_24 : decode cX5_hushes 24 = .ok (.iload_n 1, 1) := by decide +kernel
theorem dX5_hushes_25 : decode cX5_hushes 25 = .ok (.iaload, 1) := by decide +kernel
theorem dX5_hushes_26 : decode cX5_hushes 26 = .ok (.isub, 1) := by decide +kernel
theorem dX5_hushes_27 : decode cX5_hushes 27 = .ok (.iastore, 1) := by decide +kernel
theorem dX5_hushes_28 : decode cX5_hushes 28 = .ok (.iconst 1, 1) := by decide +kernel
theorem dX5_hushes_29 : decode cX5_hushes 29 = .ok (.aload_n 0, 1) := by decide +kernel
theorem dX5_hushes_30 : decode cX5_hushes 30 = .ok (.getfield 25, 3) := by decide +kernel
theorem dX5_hushes_33 : decode cX5_hushes 33 = .ok (.iload_n 1, 1) := by decide +kernel
theorem dX5_hushes_34 : decode cX5_hushes 34 = .ok (.iaload, 1) := by decide +kernel
theorem dX5_hushes_35 : decode cX5_hushes 35 = .ok (.isub, 1) := by decide +kernel
theorem dX5_hushes_36 : decode cX5_hushes 36 = .ok (.ireturn, 1) := by decide +kernel
theorem dX5_styles_0 : decode cX5_styles 0 = .ok (.aload_n 0, 1) := by decide +kernel
theorem dX5_styles_1 : decode cX5_styles 1 = .ok (.iload_n 1, 1) := by decide +kernel
theorem dX5_styles_2 : decode cX5_styles 2 = .ok (.invokevirtual 108, 3) := by decide +kernel
theorem dX5_styles_5 : decode cX5_styles 5 = .ok (.ifCond .ne 7, 3) := by decide +kernel
theorem dX5_styles_8 : decode cX5_styles 8 = .ok (.iconst (-1), 1) := by decide +kernel
theorem dX5_styles_9 : decode cX5_styles 9 = .ok (.goto 10, 3) := by decide +kernel
theorem dX5_styles_12 : decode cX5_styles 12 = .ok (.iload_n 2, 1) := by decide +kernel
theorem dX5_styles_13 : decode cX5_styles 13 = .ok (.iconst 0, 1) := by decide +kernel
theorem dX5_styles_14 : decode cX5_styles 14 = .ok (.bipush 9, 2) := by decide +kernel
theorem dX5_styles_16 : decode cX5_styles 16 = .ok (.invokestatic 62, 3) := by decide +kernel
theorem dX5_styles_19 : decode cX5_styles 19 = .ok (.istore_n 3, 1) := by decide +kernel
theorem dX5_styles_20 : decode cX5_styles 20 = .ok (.iload_n 3, 1) := by decide +kernel
theorem dX5_styles_21 : decode cX5_styles 21 = .ok (.ifCond .eq 9, 3) := by decide +kernel
theorem dX5_styles_24 : decode cX5_styles 24 = .ok (.aload_n 0, 1) := by decide +kernel
theorem dX5_styles_25 : decode cX5_styles 25 = .ok (.iload_n 3, 1) := by decide +kernel
theorem dX5_styles_26 : decode cX5_styles 26 = .ok (.invokevirtual 69, 3) := by decide +kernel
theorem dX5_styles_29 : decode cX5_styles 29 = .ok (.ireturn, 1) := by decide +kernel
theorem dX5_styles_30 : decode cX5_styles 30 = .ok (.aload_n 0, 1) := by decide +kernel
theorem dX5_styles_31 : decode cX5_styles 31 = .ok (.getfield 19, 3) := by decide +kernel
theorem dX5_styles_34 : decode cX5_styles 34 = .ok (.iload_n 1, 1) := by decide +kernel
theorem dX5_styles_35 : decode cX5_styles 35 = .ok (.iaload, 1) := by decide +kernel
theorem dX5_styles_36 : decode cX5_styles 36 = .ok (.istore 4, 2) := by decide +kernel
theorem dX5_styles_38 : decode cX5_styles 38 = .ok (.aload_n 0, 1) := by decide +kernel
theorem dX5_styles_39 : decode cX5_styles 39 = .ok (.getfield 19, 3) := by decide +kernel
theorem dX5_styles_42 : decode cX5_styles 42 = .ok (.iload_n 1, 1) := by decide +kernel
theorem dX5_styles_43 : decode cX5_styles 43 = .ok (.iload_n 2, 1) := by decide +kernel
theorem dX5_styles_44 : decode cX5_styles 44 = .ok (.iastore, 1) := by decide +kernel
theorem dX5_styles_45 : decode cX5_styles 45 = .ok (.iload 4, 2) := by decide +kernel
theorem dX5_styles_47 : decode cX5_styles 47 = .ok (.ireturn, 1) := by decide +kernel
theorem dX5_famed_0 : decode cX5_famed 0 = .ok (.aload_n 0, 1) := by decide +kernel
theorem dX5_famed_1 : decode cX5_famed 1 = .ok (.iload_n 1, 1) := by decide +kernel
theorem dX5_famed_2 : decode cX5_famed 2 = .ok (.invokevirtual 108, 3) := by decide +kernel
theorem dX5_famed_5 : decode cX5_famed 5 = .ok (.ifCond .ne 7, 3) := by decide +kernel
theorem dX5_famed_8 : decode cX5_famed 8 = .ok (.iconst (-1), 1) := by decide +kernel
theorem dX5_famed_9 : decode cX5_famed 9 = .ok (.goto 10, 3) := by decide +kernel
theorem dX5_famed_12 : decode cX5_famed 12 = .ok (.iload_n 2, 1) := by decide +kernel
theorem dX5_famed_13 : decode cX5_famed 13 = .ok (.iconst 0, 1) := by decide +kernel
theorem dX5_famed_14 : decode cX5_famed 14 = .ok (.bipush 99, 2) := by decide +kernel
theorem dX5_famed_16 : decode cX5_famed 16 = .ok (.invokestatic 62, 3) := by decide +kernel
theorem dX5_famed_19 : decode cX5_famed 19 = .ok (.istore_n 3, 1) := by decide +kernel
theorem dX5_famed_20 : decode cX5_famed 20 = .ok (.iload_n 3, 1) := by decide +kernel
theorem dX5_famed_21 : decode cX5_famed 21 = .ok (.ifCond .eq 9, 3) := by decide +kernel
theorem dX5_famed_24 : decode cX5_famed 24 = .ok (.aload_n 0, 1) := by decide +kernel
theorem dX5_famed_25 : decode cX5_famed 25 = .ok (.iload_n 3, 1) := by decide +kernel
theorem dX5_famed_26 : decode cX5_famed 26 = .ok (.invokevirtual 69, 3) := by decide +kernel
theorem dX5_famed_29 : decode cX5_famed 29 = .ok (.ireturn, 1) := by decide +kernel
theorem dX5_famed_30 : decode cX5_famed 30 = .ok (.aload_n 0, 1) := by decide +kernel
theorem dX5_famed_31 : decode cX5_famed 31 = .ok (.getfield 22, 3) := by decide +kernel
theorem dX5_famed_34 : decode cX5_famed 34 = .ok (.iload_n 1, 1) := by decide +kernel
theorem dX5_famed_35 : decode cX5_famed 35 = .ok (.iaload, 1) := by decide +kernel
theorem dX5_famed_36 : decode cX5_famed 36 = .ok (.istore 4, 2) := by decide +kernel
theorem dX5_famed_38 : decode cX5_famed 38 = .ok (.aload_n 0, 1) := by decide +kernel
theorem dX5_famed_39 : decode cX5_famed 39 = .ok (.getfield 22, 3) := by decide +kernel
theorem dX5_famed_42 : decode cX5_famed 42 = .ok (.iload_n 1, 1) := by decide +kernel
theorem dX5_famed_43 : decode cX5_famed 43 = .ok (.iload_n 2, 1) := by decide +kernel
theorem dX5_famed_44 : decode cX5_famed 44 = .ok (.iastore, 1) := by decide +kernel
theorem dX5_famed_45 : decode cX5_famed 45 = .ok (.iload 4, 2) := by decide +kernel
theorem dX5_famed_47 : decode cX5_famed 47 = .ok (.ireturn, 1) := by decide +kernel
theorem dX5_turn_0 : decode cX5_turn 0 = .ok (.aload_n 0, 1) := by decide +kernel
theorem dX5_turn_1 : decode cX5_turn 1 = .ok (.iload_n 1, 1) := by decide +kernel
theorem dX5_turn_2 : decode cX5_turn 2 = .ok (.invokevirtual 108, 3) := by decide +kernel
theorem dX5_turn_5 : decode cX5_turn 5 = .ok (.ifCond .ne 7, 3) := by decide +kernel
theorem dX5_turn_8 : decode cX5_turn 8 = .ok (.iconst (-1), 1) := by decide +kernel
theorem dX5_turn_9 : decode cX5_turn 9 = .ok (.goto 24, 3) := by decide +kernel
theorem dX5_turn_12 : decode cX5_turn 12 = .ok (.iload_n 2, 1) := by decide +kernel
theorem dX5_turn_13 : decode cX5_turn 13 = .ok (.iconst 0, 1) := by decide +kernel
theorem dX5_turn_14 : decode cX5_turn 14 = .ok (.iconst 5, 1) := by decide +kernel
theorem dX5_turn_15 : decode cX5_turn 15 = .ok (.invokestatic 80, 3) := by decide +kernel
theorem dX5_turn_18 : decode cX5_turn 18 = .ok (.ifCond .ne 8, 3) := by decide +kernel
theorem dX5_turn_21 : decode cX5_turn 21 = .ok (.bipush (-2), 2) := by decide +kernel
theorem dX5_turn_23 : decode cX5_turn 23 = .ok (.goto 10, 3) := by decide +kernel
theorem dX5_turn_26 : decode cX5_turn 26 = .ok (.iload_n 3, 1) := by decide +kernel
theorem dX5_turn_27 : decode cX5_turn 27 = .ok (.iconst 0, 1) := by decide +kernel
theorem dX5_turn_28 : decode cX5_turn 28 = .ok (.bipush 9, 2) := by decide +kernel
theorem dX5_turn_30 : decode cX5_turn 30 = .ok (.invokestatic 62, 3) := by decide +kernel
theorem dX5_turn_33 : decode cX5_turn 33 = .ok (.istore 4, 2) := by decide +kernel
theorem dX5_turn_35 : decode cX5_turn 35 = .ok (.iload 4, 2) := by decide +kernel
theorem dX5_turn_37 : decode cX5_turn 37 = .ok (.ifCond .eq 10, 3) := by decide +kernel
theorem dX5_turn_40 : decode cX5_turn 40 = .ok (.aload_n 0, 1) := by decide +kernel
theorem dX5_turn_41 : decode cX5_turn 41 = .ok (.iload 4, 2) := by decide +kernel
theorem dX5_turn_43 : decode cX5_turn 43 = .ok (.invokevirtual 69, 3) := by decide +kernel
theorem dX5_turn_46 : decode cX5_turn 46 = .ok (.ireturn, 1) := by decide +kernel
theorem dX5_turn_47 : decode cX5_turn 47 = .ok (.bipush 10, 2) := by decide +kernel
theorem dX5_turn_49 : decode cX5_turn 49 = .ok (.aload_n 0, 1) := by decide +kernel
theorem dX5_turn_50 : decode cX5_turn 50 = .ok (.getfield 13, 3) := by decide +kernel
theorem dX5_turn_53 : decode cX5_turn 53 = .ok (.iload_n 1, 1) := by decide +kernel
theorem dX5_turn_54 : decode cX5_turn 54 = .ok (.iaload, 1) := by decide +kernel
theorem dX5_turn_55 : decode cX5_turn 55 = .ok (.imul, 1) := by decide +kernel
theorem dX5_turn_56 : decode cX5_turn 56 = .ok (.aload_n 0, 1) := by decide +kernel
theorem dX5_turn_57 : decode cX5_turn 57 = .ok (.getfield 16, 3) := by decide +kernel
theorem dX5_turn_60 : decode cX5_turn 60 = .ok (.iload_n 1, 1) := by decide +kernel
theorem dX5_turn_61 : decode cX5_turn 61 = .ok (.iaload, 1) := by decide +kernel
theorem dX5_turn_62 : decode cX5_turn 62 = .ok (.iadd, 1) := by decide +kernel
theorem dX5_turn_63 : decode cX5_turn 63 = .ok (.istore 5, 2) := by decide +kernel
theorem dX5_turn_65 : decode cX5_turn 65 = .ok (.aload_n 0, 1) := by decide +kernel
theorem dX5_turn_66 : decode cX5_turn 66 = .ok (.getfield 13, 3) := by decide +kernel
theorem dX5_turn_69 : decode cX5_turn 69 = .ok (.iload_n 1, 1) := by decide +kernel
theorem dX5_turn_70 : decode cX5_turn 70 = .ok (.iload_n 2, 1) := by decide +kernel
theorem dX5_turn_71 : decode cX5_turn 71 = .ok (.iastore, 1) := by decide +kernel
theorem dX5_turn_72 : decode cX5_turn 72 = .ok (.aload_n 0, 1) := by decide +kernel
theorem dX5_turn_73 : decode cX5_turn 73 = .ok (.getfield 16, 3) := by decide +kernel
theorem dX5_turn_76 : decode cX5_turn 76 = .ok (.iload_n 1, 1) := by decide +kernel
theorem dX5_turn_77 : decode cX5_turn 77 = .ok (.iload_n 3, 1) := by decide +kernel
theorem dX5_turn_78 : decode cX5_turn 78 = .ok (.iastore, 1) := by decide +kernel
theorem dX5_turn_79 : decode cX5_turn 79 = .ok (.iload 5, 2) := by decide +kernel
theorem dX5_turn_81 : decode cX5_turn 81 = .ok (.ireturn, 1) := by decide +kernel
theorem dX5_years_0 : decode cX5_years 0 = .ok (.iload_n 1, 1) := by decide +kernel
theorem dX5_years_1 : decode cX5_years 1 = .ok (.iconst 1, 1) := by decide +kernel
theorem dX5_years_2 : decode cX5_years 2 = .ok (.bipush 60, 2) := by decide +kernel
theorem dX5_years_4 : decode cX5_years 4 = .ok (.invokestatic 62, 3) := by decide +kernel
theorem dX5_years_7 : decode cX5_years 7 = .ok (.istore_n 2, 1) := by decide +kernel
theorem dX5_years_8 : decode cX5_years 8 = .ok (.iload_n 2, 1) := by decide +kernel
theorem dX5_years_9 : decode cX5_years 9 = .ok (.ifCond .ne 18, 3) := by decide +kernel
theorem dX5_years_12 : decode cX5_years 12 = .ok (.aload_n 0, 1) := by decide +kernel
theorem dX5_years_13 : decode cX5_years 13 = .ok (.getfield 101, 3) := by decide +kernel
theorem dX5_years_16 : decode cX5_years 16 = .ok (.iload_n 1, 1) := by decide +kernel
theorem dX5_years_17 : decode cX5_years 17 = .ok (.iadd, 1) := by decide +kernel
theorem dX5_years_18 : decode cX5_years 18 = .ok (.sipush 999, 3) := by decide +kernel
theorem dX5_years_21 : decode cX5_years 21 = .ok (.if_icmp .le 6, 3) := by decide +kernel
theorem dX5_years_24 : decode cX5_years 24 = .ok (.bipush (-6), 2) := by decide +kernel
theorem dX5_years_26 : decode cX5_years 26 = .ok (.istore_n 2, 1) := by decide +kernel
theorem dX5_years_27 : decode cX5_years 27 = .ok (.iload_n 2, 1) := by decide +kernel
theorem dX5_years_28 : decode cX5_years 28 = .ok (.ifCond .eq 9, 3) := by decide +kernel
theorem dX5_years_31 : decode cX5_years 31 = .ok (.aload_n 0, 1) := by decide +kernel
theorem dX5_years_32 : decode cX5_years 32 = .ok (.iload_n 2, 1) := by decide +kernel
theorem dX5_years_33 : decode cX5_years 33 = .ok (.invokevirtual 69, 3) := by decide +kernel
theorem dX5_years_36 : decode cX5_years 36 = .ok (.ireturn, 1) := by decide +kernel
theorem dX5_years_37 : decode cX5_years 37 = .ok (.aload_n 0, 1) := by decide +kernel
theorem dX5_years_38 : decode cX5_years 38 = .ok (.iload_n 1, 1) := by decide +kernel
theorem dX5_years_39 : decode cX5_years 39 = .ok (.invokevirtual 104, 3) := by decide +kernel
theorem dX5_years_42 : decode cX5_years 42 = .ok (.aload_n 0, 1) := by decide +kernel
theorem dX5_years_43 : decode cX5_years 43 = .ok (.aload_n 0, 1) := by decide +kernel
theorem dX5_years_44 : decode cX5_years 44 = .ok (.getfield 22, 3) := by decide +kernel
theorem dX5_years_47 : decode cX5_years 47 = .ok (.invokevirtual 196, 3) := by decide +kernel
theorem dX5_years_50 : decode cX5_years 50 = .ok (.ireturn, 1) := by decide +kernel
theorem dX5_fameThen_0 : decode cX5_fameThen 0 = .ok (.aload_n 0, 1) := by decide +kernel
theorem dX5_fameThen_1 : decode cX5_fameThen 1 = .ok (.iload_n 1, 1) := by decide +kernel
theorem dX5_fameThen_2 : decode cX5_fameThen 2 = .ok (.invokevirtual 108, 3) := by decide +kernel
theorem dX5_fameThen_5 : decode cX5_fameThen 5 = .ok (.ifCond .ne 7, 3) := by decide +kernel
theorem dX5_fameThen_8 : decode cX5_fameThen 8 = .ok (.iconst (-1), 1) := by decide +kernel
theorem dX5_fameThen_9 : decode cX5_fameThen 9 = .ok (.goto 10, 3) := by decide +kernel
theorem dX5_fameThen_12 : decode cX5_fameThen 12 = .ok (.iload_n 2, 1) := by decide +kernel
theorem dX5_fameThen_13 : decode cX5_fameThen 13 = .ok (.iconst 0, 1) := by decide +kernel
theorem dX5_fameThen_14 : decode cX5_fameThen 14 = .ok (.bipush 60, 2) := by decide +kernel
theorem dX5_fameThen_16 : decode cX5_fameThen 16 = .ok (.invokestatic 62, 3) := by decide +kernel
theorem dX5_fameThen_19 : decode cX5_fameThen 19 = .ok (.istore_n 3, 1) := by decide +kernel
theorem dX5_fameThen_20 : decode cX5_fameThen 20 = .ok (.iload_n 3, 1) := by decide +kernel
theorem dX5_fameThen_21 : decode cX5_fameThen 21 = .ok (.ifCond .eq 9, 3) := by decide +kernel
theorem dX5_fameThen_24 : decode cX5_fameThen 24 = .ok (.aload_n 0, 1) := by decide +kernel
theorem dX5_fameThen_25 : decode cX5_fameThen 25 = .ok (.iload_n 3, 1) := by decide +kernel
theorem dX5_fameThen_26 : decode cX5_fameThen 26 = .ok (.invokevirtual 69, 3) := by decide +kernel
theorem dX5_fameThen_29 : decode cX5_fameThen 29 = .ok (.ireturn, 1) := by decide +kernel
theorem dX5_fameThen_30 : decode cX5_fameThen 30 = .ok (.aload_n 0, 1) := by decide +kernel
theorem dX5_fameThen_31 : decode cX5_fameThen 31 = .ok (.invokevirtual 200, 3) := by decide +kernel
theorem dX5_fameThen_34 : decode cX5_fameThen 34 = .ok (.aload_n 0, 1) := by decide +kernel
theorem dX5_fameThen_35 : decode cX5_fameThen 35 = .ok (.iload_n 2, 1) := by decide +kernel
theorem dX5_fameThen_36 : decode cX5_fameThen 36 = .ok (.invokevirtual 104, 3) := by decide +kernel
theorem dX5_fameThen_39 : decode cX5_fameThen 39 = .ok (.aload_n 0, 1) := by decide +kernel
theorem dX5_fameThen_40 : decode cX5_fameThen 40 = .ok (.getfield 22, 3) := by decide +kernel
theorem dX5_fameThen_43 : decode cX5_fameThen 43 = .ok (.iload_n 1, 1) := by decide +kernel
theorem dX5_fameThen_44 : decode cX5_fameThen 44 = .ok (.iaload, 1) := by decide +kernel
theorem dX5_fameThen_45 : decode cX5_fameThen 45 = .ok (.istore 4, 2) := by decide +kernel
theorem dX5_fameThen_47 : decode cX5_fameThen 47 = .ok (.aload_n 0, 1) := by decide +kernel
theorem dX5_fameThen_48 : decode cX5_fameThen 48 = .ok (.invokevirtual 203, 3) := by decide +kernel
theorem dX5_fameThen_51 : decode cX5_fameThen 51 = .ok (.iload 4, 2) := by decide +kernel
theorem dX5_fameThen_53 : decode cX5_fameThen 53 = .ok (.ireturn, 1) := by decide +kernel
theorem dX5_opensThen_0 : decode cX5_opensThen 0 = .ok (.aload_n 0, 1) := by decide +kernel
theorem dX5_opensThen_1 : decode cX5_opensThen 1 = .ok (.iload_n 1, 1) := by decide +kernel
theorem dX5_opensThen_2 : decode cX5_opensThen 2 = .ok (.invokevirtual 108, 3) := by decide +kernel
theorem dX5_opensThen_5 : decode cX5_opensThen 5 = .ok (.ifCond .ne 7, 3) := by decide +kernel
theorem dX5_opensThen_8 : decode cX5_opensThen 8 = .ok (.iconst (-1), 1) := by decide +kernel
theorem dX5_opensThen_9 : decode cX5_opensThen 9 = .ok (.goto 10, 3) := by decide +kernel
theorem dX5_opensThen_12 : decode cX5_opensThen 12 = .ok (.iload_n 2, 1) := by decide +kernel
theorem dX5_opensThen_13 : decode cX5_opensThen 13 = .ok (.iconst 0, 1) := by decide +kernel
theorem dX5_opensThen_14 : decode cX5_opensThen 14 = .ok (.bipush 60, 2) := by decide +kernel
theorem dX5_opensThen_16 : decode cX5_opensThen 16 = .ok (.invokestatic 62, 3) := by decide +kernel
theorem dX5_opensThen_19 : decode cX5_opensThen 19 = .ok (.istore_n 3, 1) := by decide +kernel
theorem dX5_opensThen_20 : decode cX5_opensThen 20 = .ok (.iload_n 3, 1) := by decide +kernel
theorem dX5_opensThen_21 : decode cX5_opensThen 21 = .ok (.ifCond .eq 11, 3) := by decide +kernel
theorem dX5_opensThen_24 : decode cX5_opensThen 24 = .ok (.aload_n 0, 1) := by decide +kernel
theorem dX5_opensThen_25 : decode cX5_opensThen 25 = .ok (.iload_n 3, 1) := by decide +kernel
theorem dX5_opensThen_26 : decode cX5_opensThen 26 = .ok (.invokevirtual 69, 3) := by decide +kernel
theorem dX5_opensThen_29 : decode cX5_opensThen 29 = .ok (.goto 19, 3) := by decide +kernel
theorem dX5_opensThen_32 : decode cX5_opensThen 32 = .ok (.aload_n 0, 1) := by decide +kernel
theorem dX5_opensThen_33 : decode cX5_opensThen 33 = .ok (.getfield 19, 3) := by decide +kernel
theorem dX5_opensThen_36 : decode cX5_opensThen 36 = .ok (.iload_n 1, 1) := by decide +kernel
theorem dX5_opensThen_37 : decode cX5_opensThen 37 = .ok (.iaload, 1) := by decide +kernel
theorem dX5_opensThen_38 : decode cX5_opensThen 38 = .ok (.aload_n 0, 1) := by decide +kernel
theorem dX5_opensThen_39 : decode cX5_opensThen 39 = .ok (.getfield 101, 3) := by decide +kernel
theorem dX5_opensThen_42 : decode cX5_opensThen 42 = .ok (.iadd, 1) := by decide +kernel
theorem dX5_opensThen_43 : decode cX5_opensThen 43 = .ok (.iload_n 2, 1) := by decide +kernel
theorem dX5_opensThen_44 : decode cX5_opensThen 44 = .ok (.iadd, 1) := by decide +kernel
theorem dX5_opensThen_45 : decode cX5_opensThen 45 = .ok (.bipush 10, 2) := by decide +kernel
theorem dX5_opensThen_47 : decode cX5_opensThen 47 = .ok (.irem, 1) := by decide +kernel
theorem dX5_opensThen_48 : decode cX5_opensThen 48 = .ok (.ireturn, 1) := by decide +kernel
theorem dX5_worth_0 : decode cX5_worth 0 = .ok (.aload_n 0, 1) := by decide +kernel
theorem dX5_worth_1 : decode cX5_worth 1 = .ok (.invokevirtual 206, 3) := by decide +kernel
theorem dX5_worth_4 : decode cX5_worth 4 = .ok (.ireturn, 1) := by decide +kernel
theorem dX5_well_0 : decode cX5_well 0 = .ok (.iconst 0, 1) := by decide +kernel
theorem dX5_well_1 : decode cX5_well 1 = .ok (.istore_n 1, 1) := by decide +kernel
theorem dX5_well_2 : decode cX5_well 2 = .ok (.iconst 0, 1) := by decide +kernel
theorem dX5_well_3 : decode cX5_well 3 = .ok (.istore_n 2, 1) := by decide +kernel
theorem dX5_well_4 : decode cX5_well 4 = .ok (.iload_n 2, 1) := by decide +kernel
theorem dX5_well_5 : decode cX5_well 5 = .ok (.aload_n 0, 1) := by decide +kernel
theorem dX5_well_6 : decode cX5_well 6 = .ok (.getfield 55, 3) := by decide +kernel
theorem dX5_well_9 : decode cX5_well 9 = .ok (.if_icmp .ge 36, 3) := by decide +kernel
theorem dX5_well_12 : decode cX5_well 12 = .ok (.iload_n 1, 1) := by decide +kernel
theorem dX5_well_13 : decode cX5_well 13 = .ok (.aload_n 0, 1) := by decide +kernel
theorem dX5_well_14 : decode cX5_well 14 = .ok (.iload_n 2, 1) := by decide +kernel
theorem dX5_well_15 : decode cX5_well 15 = .ok (.invokevirtual 177, 3) := by decide +kernel
theorem dX5_well_18 : decode cX5_well 18 = .ok (.ifCond .eq 18, 3) := by decide +kernel
theorem dX5_well_21 : decode cX5_well 21 = .ok (.aload_n 0, 1) := by decide +kernel
theorem dX5_well_22 : decode cX5_well 22 = .ok (.iload_n 2, 1) := by decide +kernel
theorem dX5_well_23 : decode cX5_well 23 = .ok (.invokevirtual 180, 3) := by decide +kernel
theorem dX5_well_26 : decode cX5_well 26 = .ok (.iconst 5, 1) := by decide +kernel
theorem dX5_well_27 : decode cX5_well 27 = .ok (.if_icmp .lt 9, 3) := by decide +kernel
theorem dX5_well_30 : decode cX5_well 30 = .ok (.iconst 1, 1) := by decide +kernel
theorem dX5_well_31 : decode cX5_well 31 = .ok (.iload_n 2, 1) := by decide +kernel
theorem dX5_well_32 : decode cX5_well 32 = .ok (.ishl, 1) := by decide +kernel
theorem dX5_well_33 : decode cX5_well 33 = .ok (.goto 4, 3) := by decide +kernel
theorem dX5_well_36 : decode cX5_well 36 = .ok (.iconst 0, 1) := by decide +kernel
theorem dX5_well_37 : decode cX5_well 37 = .ok (.ior, 1) := by decide +kernel
theorem dX5_well_38 : decode cX5_well 38 = .ok (.istore_n 1, 1) := by decide +kernel
theorem dX5_well_39 : decode cX5_well 39 = .ok (.iinc 2 1, 3) := by decide +kernel
theorem dX5_well_42 : decode cX5_well 42 = .ok (.goto (-38), 3) := by decide +kernel
theorem dX5_well_45 : decode cX5_well 45 = .ok (.iload_n 1, 1) := by decide +kernel
theorem dX5_well_46 : decode cX5_well 46 = .ok (.ireturn, 1) := by decide +kernel
theorem dX5_read_0 : decode cX5_read 0 = .ok (.iload_n 1, 1) := by decide +kernel
theorem dX5_read_1 : decode cX5_read 1 = .ok (.iconst 0, 1) := by decide +kernel
theorem dX5_read_2 : decode cX5_read 2 = .ok (.iconst 1, 1) := by decide +kernel
theorem dX5_read_3 : decode cX5_read 3 = .ok (.invokestatic 80, 3) := by decide +kernel
theorem dX5_read_6 : decode cX5_read 6 = .ok (.ifCond .ne 10, 3) := by decide +kernel
theorem dX5_read_9 : decode cX5_read 9 = .ok (.aload_n 0, 1) := by decide +kernel
theorem dX5_read_10 : decode cX5_read 10 = .ok (.bipush (-2), 2) := by decide +kernel
theorem dX5_read_12 : decode cX5_read 12 = .ok (.invokevirtual 69, 3) := by decide +kernel
theorem dX5_read_15 : decode cX5_read 15 = .ok (.ireturn, 1) := by decide +kernel
theorem dX5_read_16 : decode cX5_read 16 = .ok (.bipush (-9), 2) := by decide +kernel
theorem dX5_read_18 : decode cX5_read 18 = .ok (.istore_n 2, 1) := by decide +kernel
theorem dX5_read_19 : decode cX5_read 19 = .ok (.iconst 0, 1) := by decide +kernel
theorem dX5_read_20 : decode cX5_read 20 = .ok (.istore_n 3, 1) := by decide +kernel
theorem dX5_read_21 : decode cX5_read 21 = .ok (.iload_n 3, 1) := by decide +kernel
theorem dX5_read_22 : decode cX5_read 22 = .ok (.aload_n 0, 1) := by decide +kernel
theorem dX5_read_23 : decode cX5_read 23 = .ok (.getfield 55, 3) := by decide +kernel
theorem dX5_read_26 : decode cX5_read 26 = .ok (.if_icmp .ge 64, 3) := by decide +kernel
theorem dX5_read_29 : decode cX5_read 29 = .ok (.aload_n 0, 1) := by decide +kernel
theorem dX5_read_30 : decode cX5_read 30 = .ok (.iload_n 3, 1) := by decide +kernel
theorem dX5_read_31 : decode cX5_read 31 = .ok (.invokevirtual 177, 3) := by decide +kernel
theorem dX5_read_34 : decode cX5_read 34 = .ok (.ifCond .ne 6, 3) := by decide +kernel
theorem dX5_read_37 : decode cX5_read 37 = .ok (.goto 47, 3) := by decide +kernel
theorem dX5_read_40 : decode cX5_read 40 = .ok (.iload_n 2, 1) := by decide +kernel
theorem dX5_read_41 : decode cX5_read 41 = .ok (.ifCond .ge 7, 3) := by decide +kernel
theorem dX5_read_44 : decode cX5_read 44 = .ok (.iconst 1, 1) := by decide +kernel
theorem dX5_read_45 : decode cX5_read 45 = .ok (.goto 14, 3) := by decide +kernel
theorem dX5_read_48 : decode cX5_read 48 = .ok (.aload_n 0, 1) := by decide +kernel
theorem dX5_read_49 : decode cX5_read 49 = .ok (.iload_n 3, 1) := by decide +kernel
theorem dX5_read_50 : decode cX5_read 50 = .ok (.invokevirtual 180, 3) := by decide +kernel
theorem dX5_read_53 : decode cX5_read 53 = .ok (.aload_n 0, 1) := by decide +kernel
theorem dX5_read_54 : decode cX5_read 54 = .ok (.iload_n 2, 1) := by decide +kernel
theorem dX5_read_55 : decode cX5_read 55 = .ok (.invokevirtual 180, 3) := by decide +kernel
theorem dX5_read_58 : decode cX5_read 58 = .ok (.isub, 1) := by decide +kernel
theorem dX5_read_59 : decode cX5_read 59 = .ok (.istore 4, 2) := by decide +kernel
theorem dX5_read_61 : decode cX5_read 61 = .ok (.iload_n 2, 1) := by decide +kernel
theorem dX5_read_62 : decode cX5_read 62 = .ok (.ifCond .lt 20, 3) := by decide +kernel
theorem dX5_read_65 : decode cX5_read 65 = .ok (.iload_n 1, 1) := by decide +kernel
theorem dX5_read_66 : decode cX5_read 66 = .ok (.ifCond .ne 11, 3) := by decide +kernel
theorem dX5_read_69 : decode cX5_read 69 = .ok (.iload 4, 2) := by decide +kernel
theorem dX5_read_71 : decode cX5_read 71 = .ok (.ifCond .le 13, 3) := by decide +kernel
theorem dX5_read_74 : decode cX5_read 74 = .ok (.goto 8, 3) := by decide +kernel
theorem dX5_read_77 : decode cX5_read 77 = .ok (.iload 4, 2) := by decide +kernel
theorem dX5_read_79 : decode cX5_read 79 = .ok (.ifCond .ge 5, 3) := by decide +kernel
theorem dX5_read_82 : decode cX5_read 82 = .ok (.iload_n 3, 1) := by decide +kernel
theorem dX5_read_83 : decode cX5_read 83 = .ok (.istore_n 2, 1) := by decide +kernel
theorem dX5_read_84 : decode cX5_read 84 = .ok (.iinc 3 1, 3) := by decide +kernel
theorem dX5_read_87 : decode cX5_read 87 = .ok (.goto (-66), 3) := by decide +kernel
theorem dX5_read_90 : decode cX5_read 90 = .ok (.iload_n 2, 1) := by decide +kernel
theorem dX5_read_91 : decode cX5_read 91 = .ok (.ireturn, 1) := by decide +kernel
theorem dX5_famous_0 : decode cX5_famous 0 = .ok (.aload_n 0, 1) := by decide +kernel
theorem dX5_famous_1 : decode cX5_famous 1 = .ok (.iload_n 1, 1) := by decide +kernel
theorem dX5_famous_2 : decode cX5_famous 2 = .ok (.invokevirtual 108, 3) := by decide +kernel
theorem dX5_famous_5 : decode cX5_famous 5 = .ok (.ifCond .ne 7, 3) := by decide +kernel
theorem dX5_famous_8 : decode cX5_famous 8 = .ok (.iconst (-1), 1) := by decide +kernel
theorem dX5_famous_9 : decode cX5_famous 9 = .ok (.goto 10, 3) := by decide +kernel
theorem dX5_famous_12 : decode cX5_famous 12 = .ok (.iload_n 2, 1) := by decide +kernel
theorem dX5_famous_13 : decode cX5_famous 13 = .ok (.iconst 0, 1) := by decide +kernel
theorem dX5_famous_14 : decode cX5_famous 14 = .ok (.bipush 99, 2) := by decide +kernel
theorem dX5_famous_16 : decode cX5_famous 16 = .ok (.invokestatic 62, 3) := by decide +kernel
theorem dX5_famous_19 : decode cX5_famous 19 = .ok (.istore_n 3, 1) := by decide +kernel
theorem dX5_famous_20 : decode cX5_famous 20 = .ok (.iload_n 3, 1) := by decide +kernel
theorem dX5_famous_21 : decode cX5_famous 21 = .ok (.ifCond .eq 9, 3) := by decide +kernel
theorem dX5_famous_24 : decode cX5_famous 24 = .ok (.aload_n 0, 1) := by decide +kernel
theorem dX5_famous_25 : decode cX5_famous 25 = .ok (.iload_n 3, 1) := by decide +kernel
theorem dX5_famous_26 : decode cX5_famous 26 = .ok (.invokevirtual 69, 3) := by decide +kernel
theorem dX5_famous_29 : decode cX5_famous 29 = .ok (.ireturn, 1) := by decide +kernel
theorem dX5_famous_30 : decode cX5_famous 30 = .ok (.aload_n 0, 1) := by decide +kernel
theorem dX5_famous_31 : decode cX5_famous 31 = .ok (.invokevirtual 200, 3) := by decide +kernel
theorem dX5_famous_34 : decode cX5_famous 34 = .ok (.bipush (-9), 2) := by decide +kernel
theorem dX5_famous_36 : decode cX5_famous 36 = .ok (.istore 4, 2) := by decide +kernel
theorem dX5_famous_38 : decode cX5_famous 38 = .ok (.iconst 0, 1) := by decide +kernel
theorem dX5_famous_39 : decode cX5_famous 39 = .ok (.istore 5, 2) := by decide +kernel
theorem dX5_famous_41 : decode cX5_famous 41 = .ok (.iload 5, 2) := by decide +kernel
theorem dX5_famous_43 : decode cX5_famous 43 = .ok (.bipush 60, 2) := by decide +kernel
theorem dX5_famous_45 : decode cX5_famous 45 = .ok (.if_icmp .gt 38, 3) := by decide +kernel
theorem dX5_famous_48 : decode cX5_famous 48 = .ok (.iload 4, 2) := by decide +kernel
theorem dX5_famous_50 : decode cX5_famous 50 = .ok (.ifCond .ge 33, 3) := by decide +kernel
theorem dX5_famous_53 : decode cX5_famous 53 = .ok (.aload_n 0, 1) := by decide +kernel
theorem dX5_famous_54 : decode cX5_famous 54 = .ok (.getfield 22, 3) := by decide +kernel
theorem dX5_famous_57 : decode cX5_famous 57 = .ok (.iload_n 1, 1) := by decide +kernel
theorem dX5_famous_58 : decode cX5_famous 58 = .ok (.iaload, 1) := by decide +kernel
theorem dX5_famous_59 : decode cX5_famous 59 = .ok (.iload_n 2, 1) := by decide +kernel
theorem dX5_famous_60 : decode cX5_famous 60 = .ok (.if_icmp .lt 8, 3) := by decide +kernel
theorem dX5_famous_63 : decode cX5_famous 63 = .ok (.iload 5, 2) := by decide +kernel
theorem dX5_famous_65 : decode cX5_famous 65 = .ok (.goto 5, 3) := by decide +kernel
theorem dX5_famous_68 : decode cX5_famous 68 = .ok (.bipush (-9), 2) := by decide +kernel
theorem dX5_famous_70 : decode cX5_famous 70 = .ok (.istore 4, 2) := by decide +kernel
theorem dX5_famous_72 : decode cX5_famous 72 = .ok (.aload_n 0, 1) := by decide +kernel
theorem dX5_famous_73 : decode cX5_famous 73 = .ok (.iconst 0, 1) := by decide +kernel
theorem dX5_famous_74 : decode cX5_famous 74 = .ok (.invokevirtual 189, 3) := by decide +kernel
theorem dX5_famous_77 : decode cX5_famous 77 = .ok (.iinc 5 1, 3) := by decide +kernel
theorem dX5_famous_80 : decode cX5_famous 80 = .ok (.goto (-39), 3) := by decide +kernel
theorem dX5_famous_83 : decode cX5_famous 83 = .ok (.aload_n 0, 1) := by decide +kernel
theorem dX5_famous_84 : decode cX5_famous 84 = .ok (.invokevirtual 203, 3) := by decide +kernel
theorem dX5_famous_87 : decode cX5_famous 87 = .ok (.iload 4, 2) := by decide +kernel
theorem dX5_famous_89 : decode cX5_famous 89 = .ok (.ireturn, 1) := by decide +kernel
theorem dX5_findForgotten_0 : decode cX5_findForgotten 0 = .ok (.bipush (-9), 2) := by decide +kernel
theorem dX5_findForgotten_2 : decode cX5_findForgotten 2 = .ok (.istore_n 1, 1) := by decide +kernel
theorem dX5_findForgotten_3 : decode cX5_findForgotten 3 = .ok (.aload_n 0, 1) := by decide +kernel
theorem dX5_findForgotten_4 : decode cX5_findForgotten 4 = .ok (.bipush (-9), 2) := by decide +kernel
theorem dX5_findForgotten_6 : decode cX5_findForgotten 6 = .ok (.putfield 209, 3) := by decide +kernel
theorem dX5_findForgotten_9 : decode cX5_findForgotten 9 = .ok (.aload_n 0, 1) := by decide +kernel
theorem dX5_findForgotten_10 : decode cX5_findForgotten 10 = .ok (.invokevirtual 200, 3) := by decide +kernel
theorem dX5_findForgotten_13 : decode cX5_findForgotten 13 = .ok (.iconst 0, 1) := by decide +kernel
theorem dX5_findForgotten_14 : decode cX5_findForgotten 14 = .ok (.istore_n 2, 1) := by decide +kernel
theorem dX5_findForgotten_15 : decode cX5_findForgotten 15 = .ok (.iload_n 2, 1) := by decide +kernel
theorem dX5_findForgotten_16 : decode cX5_findForgotten 16 = .ok (.bipush 60, 2) := by decide +kernel
