theorem dX4_init_0 : decode cX4_init 0 = .ok (.aload_n 0, 1) := by decide +kernel
theorem dX4_init_1 : decode cX4_init 1 = .ok (.invokespecial 1, 3) := by decide +kernel
theorem dX4_init_4 : decode cX4_init 4 = .ok (.aload_n 0, 1) := by decide +kernel
theorem dX4_init_5 : decode cX4_init 5 = .ok (.new 7, 3) := by decide +kernel
theorem dX4_init_8 : decode cX4_init 8 = .ok (.dup, 1) := by decide +kernel
theorem dX4_init_9 : decode cX4_init 9 = .ok (.invokespecial 9, 3) := by decide +kernel
theorem dX4_init_12 : decode cX4_init 12 = .ok (.putfield 10, 3) := by decide +kernel
theorem dX4_init_15 : decode cX4_init 15 = .ok (.aload_n 0, 1) := by decide +kernel
theorem dX4_init_16 : decode cX4_init 16 = .ok (.new 7, 3) := by decide +kernel
theorem dX4_init_19 : decode cX4_init 19 = .ok (.dup, 1) := by decide +kernel
theorem dX4_init_20 : decode cX4_init 20 = .ok (.invokespecial 9, 3) := by decide +kernel
theorem dX4_init_23 : decode cX4_init 23 = .ok (.putfield 16, 3) := by decide +kernel
theorem dX4_init_26 : decode cX4_init 26 = .ok (.aload_n 0, 1) := by decide +kernel
theorem dX4_init_27 : decode cX4_init 27 = .ok (.new 7, 3) := by decide +kernel
theorem dX4_init_30 : decode cX4_init 30 = .ok (.dup, 1) := by decide +kernel
theorem dX4_init_31 : decode cX4_init 31 = .ok (.invokespecial 9, 3) := by decide +kernel
theorem dX4_init_34 : decode cX4_init 34 = .ok (.putfield 19, 3) := by decide +kernel
theorem dX4_init_37 : decode cX4_init 37 = .ok (.aload_n 0, 1) := by decide +kernel
theorem dX4_init_38 : decode cX4_init 38 = .ok (.iconst 0, 1) := by decide +kernel
theorem dX4_init_39 : decode cX4_init 39 = .ok (.putfield 22, 3) := by decide +kernel
theorem dX4_init_42 : decode cX4_init 42 = .ok (.aload_n 0, 1) := by decide +kernel
theorem dX4_init_43 : decode cX4_init 43 = .ok (.new 26, 3) := by decide +kernel
theorem dX4_init_46 : decode cX4_init 46 = .ok (.dup, 1) := by decide +kernel
theorem dX4_init_47 : decode cX4_init 47 = .ok (.invokespecial 28, 3) := by decide +kernel
theorem dX4_init_50 : decode cX4_init 50 = .ok (.putfield 29, 3) := by decide +kernel
theorem dX4_init_53 : decode cX4_init 53 = .ok (.aload_n 0, 1) := by decide +kernel
theorem dX4_init_54 : decode cX4_init 54 = .ok (.new 33, 3) := by decide +kernel
theorem dX4_init_57 : decode cX4_init 57 = .ok (.dup, 1) := by decide +kernel
theorem dX4_init_58 : decode cX4_init 58 = .ok (.bipush 16, 2) := by decide +kernel
theorem dX4_init_60 : decode cX4_init 60 = .ok (.invokespecial 35, 3) := by decide +kernel
theorem dX4_init_63 : decode cX4_init 63 = .ok (.putfield 38, 3) := by decide +kernel
theorem dX4_init_66 : decode cX4_init 66 = .ok (.aload_n 0, 1) := by decide +kernel
theorem dX4_init_67 : decode cX4_init 67 = .ok (.new 33, 3) := by decide +kernel
theorem dX4_init_70 : decode cX4_init 70 = .ok (.dup, 1) := by decide +kernel
theorem dX4_init_71 : decode cX4_init 71 = .ok (.bipush 7, 2) := by decide +kernel
theorem dX4_init_73 : decode cX4_init 73 = .ok (.invokespecial 35, 3) := by decide +kernel
theorem dX4_init_76 : decode cX4_init 76 = .ok (.putfield 42, 3) := by decide +kernel
theorem dX4_init_79 : decode cX4_init 79 = .ok (.aload_n 0, 1) := by decide +kernel
theorem dX4_init_80 : decode cX4_init 80 = .ok (.new 33, 3) := by decide +kernel
theorem dX4_init_83 : decode cX4_init 83 = .ok (.dup, 1) := by decide +kernel
theorem dX4_init_84 : decode cX4_init 84 = .ok (.iconst 4, 1) := by decide +kernel
theorem dX4_init_85 : decode cX4_init 85 = .ok (.invokespecial 35, 3) := by decide +kernel
theorem dX4_init_88 : decode cX4_init 88 = .ok (.putfield 45, 3) := by decide +kernel
theorem dX4_init_91 : decode cX4_init 91 = .ok (.aload_n 0, 1) := by decide +kernel
theorem dX4_init_92 : decode cX4_init 92 = .ok (.new 33, 3) := by decide +kernel
theorem dX4_init_95 : decode cX4_init 95 = .ok (.dup, 1) := by decide +kernel
theorem dX4_init_96 : decode cX4_init 96 = .ok (.iconst 4, 1) := by decide +kernel
theorem dX4_init_97 : decode cX4_init 97 = .ok (.invokespecial 35, 3) := by decide +kernel
theorem dX4_init_100 : decode cX4_init 100 = .ok (.putfield 48, 3) := by decide +kernel
theorem dX4_init_103 : decode cX4_init 103 = .ok (.aload_n 0, 1) := by decide +kernel
theorem dX4_init_104 : decode cX4_init 104 = .ok (.new 51, 3) := by decide +kernel
theorem dX4_init_107 : decode cX4_init 107 = .ok (.dup, 1) := by decide +kernel
theorem dX4_init_108 : decode cX4_init 108 = .ok (.invokespecial 53, 3) := by decide +kernel
theorem dX4_init_111 : decode cX4_init 111 = .ok (.putfield 54, 3) := by decide +kernel
theorem dX4_init_114 : decode cX4_init 114 = .ok (.return_, 1) := by decide +kernel
theorem dX4_letter_0 : decode cX4_letter 0 = .ok (.iload_n 1, 1) := by decide +kernel
theorem dX4_letter_1 : decode cX4_letter 1 = .ok (.ifCond .ge 10, 3) := by decide +kernel
theorem dX4_letter_4 : decode cX4_letter 4 = .ok (.aload_n 0, 1) := by decide +kernel
theorem dX4_letter_5 : decode cX4_letter 5 = .ok (.bipush (-4), 2) := by decide +kernel
theorem dX4_letter_7 : decode cX4_letter 7 = .ok (.invokevirtual 58, 3) := by decide +kernel
theorem dX4_letter_10 : decode cX4_letter 10 = .ok (.ireturn, 1) := by decide +kernel
theorem dX4_letter_11 : decode cX4_letter 11 = .ok (.iload_n 1, 1) := by decide +kernel
theorem dX4_letter_12 : decode cX4_letter 12 = .ok (.sipush 255, 3) := by decide +kernel
theorem dX4_letter_15 : decode cX4_letter 15 = .ok (.if_icmp .gt 18, 3) := by decide +kernel
theorem dX4_letter_18 : decode cX4_letter 18 = .ok (.aload_n 0, 1) := by decide +kernel
theorem dX4_letter_19 : decode cX4_letter 19 = .ok (.getfield 29, 3) := by decide +kernel
theorem dX4_letter_22 : decode cX4_letter 22 = .ok (.getfield 62, 3) := by decide +kernel
theorem dX4_letter_25 : decode cX4_letter 25 = .ok (.getfield 65, 3) := by decide +kernel
theorem dX4_letter_28 : decode cX4_letter 28 = .ok (.bipush 96, 2) := by decide +kernel
theorem dX4_letter_30 : decode cX4_letter 30 = .ok (.if_icmp .lt 10, 3) := by decide +kernel
theorem dX4_letter_33 : decode cX4_letter 33 = .ok (.aload_n 0, 1) := by decide +kernel
theorem dX4_letter_34 : decode cX4_letter 34 = .ok (.bipush (-6), 2) := by decide +kernel
theorem dX4_letter_36 : decode cX4_letter 36 = .ok (.invokevirtual 58, 3) := by decide +kernel
theorem dX4_letter_39 : decode cX4_letter 39 = .ok (.ireturn, 1) := by decide +kernel
theorem dX4_letter_40 : decode cX4_letter 40 = .ok (.aload_n 0, 1) := by decide +kernel
theorem dX4_letter_41 : decode cX4_letter 41 = .ok (.getfield 29, 3) := by decide +kernel
theorem dX4_letter_44 : decode cX4_letter 44 = .ok (.getfield 62, 3) := by decide +kernel
theorem dX4_letter_47 : decode cX4_letter 47 = .ok (.iload_n 1, 1) := by decide +kernel
theorem dX4_letter_48 : decode cX4_letter 48 = .ok (.invokevirtual 69, 3) := by decide +kernel
theorem dX4_letter_51 : decode cX4_letter 51 = .ok (.aload_n 0, 1) := by decide +kernel
theorem dX4_letter_52 : decode cX4_letter 52 = .ok (.getfield 29, 3) := by decide +kernel
theorem dX4_letter_55 : decode cX4_letter 55 = .ok (.getfield 62, 3) := by decide +kernel
theorem dX4_letter_58 : decode cX4_letter 58 = .ok (.getfield 65, 3) := by decide +kernel
theorem dX4_letter_61 : decode cX4_letter 61 = .ok (.ireturn, 1) := by decide +kernel
theorem dX4_guild_0 : decode cX4_guild 0 = .ok (.aload_n 0, 1) := by decide +kernel
theorem dX4_guild_1 : decode cX4_guild 1 = .ok (.getfield 29, 3) := by decide +kernel
theorem dX4_guild_4 : decode cX4_guild 4 = .ok (.invokevirtual 72, 3) := by decide +kernel
theorem dX4_guild_7 : decode cX4_guild 7 = .ok (.istore_n 1, 1) := by decide +kernel
theorem dX4_guild_8 : decode cX4_guild 8 = .ok (.iload_n 1, 1) := by decide +kernel
theorem dX4_guild_9 : decode cX4_guild 9 = .ok (.ifCond .lt 11, 3) := by decide +kernel
theorem dX4_guild_12 : decode cX4_guild 12 = .ok (.sipush (-1000), 3) := by decide +kernel
theorem dX4_guild_15 : decode cX4_guild 15 = .ok (.iload_n 1, 1) := by decide +kernel
theorem dX4_guild_16 : decode cX4_guild 16 = .ok (.isub, 1) := by decide +kernel
theorem dX4_guild_17 : decode cX4_guild 17 = .ok (.goto 7, 3) := by decide +kernel
theorem dX4_guild_20 : decode cX4_guild 20 = .ok (.aload_n 0, 1) := by decide +kernel
theorem dX4_guild_21 : decode cX4_guild 21 = .ok (.invokevirtual 76, 3) := by decide +kernel
theorem dX4_guild_24 : decode cX4_guild 24 = .ok (.istore_n 2, 1) := by decide +kernel
theorem dX4_guild_25 : decode cX4_guild 25 = .ok (.aload_n 0, 1) := by decide +kernel
theorem dX4_guild_26 : decode cX4_guild 26 = .ok (.getfield 29, 3) := by decide +kernel
theorem dX4_guild_29 : decode cX4_guild 29 = .ok (.getfield 62, 3) := by decide +kernel
theorem dX4_guild_32 : decode cX4_guild 32 = .ok (.invokevirtual 79, 3) := by decide +kernel
theorem dX4_guild_35 : decode cX4_guild 35 = .ok (.iload_n 2, 1) := by decide +kernel
theorem dX4_guild_36 : decode cX4_guild 36 = .ok (.ireturn, 1) := by decide +kernel
theorem dX4_allStatementsCome_0 : decode cX4_allStatementsCome 0 = .ok (.aload_n 0, 1) := by decide +kernel
theorem dX4_allStatementsCome_1 : decode cX4_allStatementsCome 1 = .ok (.getfield 16, 3) := by decide +kernel
theorem dX4_allStatementsCome_4 : decode cX4_allStatementsCome 4 = .ok (.aload_n 0, 1) := by decide +kernel
theorem dX4_allStatementsCome_5 : decode cX4_allStatementsCome 5 = .ok (.getfield 10, 3) := by decide +kernel
theorem dX4_allStatementsCome_8 : decode cX4_allStatementsCome 8 = .ok (.invokevirtual 82, 3) := by decide +kernel
theorem dX4_allStatementsCome_11 : decode cX4_allStatementsCome 11 = .ok (.iconst 0, 1) := by decide +kernel
theorem dX4_allStatementsCome_12 : decode cX4_allStatementsCome 12 = .ok (.istore_n 1, 1) := by decide +kernel
theorem dX4_allStatementsCome_13 : decode cX4_allStatementsCome 13 = .ok (.iconst 0, 1) := by decide +kernel
theorem dX4_allStatementsCome_14 : decode cX4_allStatementsCome 14 = .ok (.istore_n 2, 1) := by decide +kernel
theorem dX4_allStatementsCome_15 : decode cX4_allStatementsCome 15 = .ok (.iload_n 2, 1) := by decide +kernel
theorem dX4_allStatementsCome_16 : decode cX4_allStatementsCome 16 = .ok (.bipush 96, 2) := by decide +kernel
theorem dX4_allStatementsCome_18 : decode cX4_allStatementsCome 18 = .ok (.if_icmp .ge 56, 3) := by decide +kernel
theorem dX4_allStatementsCome_21 : decode cX4_allStatementsCome 21 = .ok (.iload_n 1, 1) := by decide +kernel
theorem dX4_allStatementsCome_22 : decode cX4_allStatementsCome 22 = .ok (.aload_n 0, 1) := by decide +kernel
theorem dX4_allStatementsCome_23 : decode cX4_allStatementsCome 23 = .ok (.getfield 29, 3) := by decide +kernel
theorem dX4_allStatementsCome_26 : decode cX4_allStatementsCome 26 = .ok (.getfield 62, 3) := by decide +kernel
theorem dX4_allStatementsCome_29 : decode cX4_allStatementsCome 29 = .ok (.getfield 65, 3) := by decide +kernel
theorem dX4_allStatementsCome_32 : decode cX4_allStatementsCome 32 = .ok (.if_icmp .ge 42, 3) := by decide +kernel
theorem dX4_allStatementsCome_35 : decode cX4_allStatementsCome 35 = .ok (.aload_n 0, 1) := by decide +kernel
theorem dX4_allStatementsCome_36 : decode cX4_allStatementsCome 36 = .ok (.iload_n 1, 1) := by decide +kernel
theorem dX4_allStatementsCome_37 : decode cX4_allStatementsCome 37 = .ok (.invokevirtual 86, 3) := by decide +kernel
theorem dX4_allStatementsCome_40 : decode cX4_allStatementsCome 40 = .ok (.ifCond .ne 9, 3) := by decide +kernel
theorem dX4_allStatementsCome_43 : decode cX4_allStatementsCome 43 = .ok (.sipush (-2000), 3) := by decide +kernel
theorem dX4_allStatementsCome_46 : decode cX4_allStatementsCome 46 = .ok (.iload_n 1, 1) := by decide +kernel
theorem dX4_allStatementsCome_47 : decode cX4_allStatementsCome 47 = .ok (.isub, 1) := by decide +kernel
theorem dX4_allStatementsCome_48 : decode cX4_allStatementsCome 48 = .ok (.ireturn, 1) := by decide +kernel
theorem dX4_allStatementsCome_49 : decode cX4_allStatementsCome 49 = .ok (.aload_n 0, 1) := by decide +kernel
theorem dX4_allStatementsCome_50 : decode cX4_allStatementsCome 50 = .ok (.iload_n 1, 1) := by decide +kernel
theorem dX4_allStatementsCome_51 : decode cX4_allStatementsCome 51 = .ok (.invokevirtual 90, 3) := by decide +kernel
theorem dX4_allStatementsCome_54 : decode cX4_allStatementsCome 54 = .ok (.iload_n 1, 1) := by decide +kernel
theorem dX4_allStatementsCome_55 : decode cX4_allStatementsCome 55 = .ok (.aload_n 0, 1) := by decide +kernel
theorem dX4_allStatementsCome_56 : decode cX4_allStatementsCome 56 = .ok (.getfield 29, 3) := by decide +kernel
theorem dX4_allStatementsCome_59 : decode cX4_allStatementsCome 59 = .ok (.iload_n 1, 1) := by decide +kernel
theorem dX4_allStatementsCome_60 : decode cX4_allStatementsCome 60 = .ok (.invokevirtual 93, 3) := by decide +kernel
theorem dX4_allStatementsCome_63 : decode cX4_allStatementsCome 63 = .ok (.invokevirtual 97, 3) := by decide +kernel
theorem dX4_allStatementsCome_66 : decode cX4_allStatementsCome 66 = .ok (.iadd, 1) := by decide +kernel
theorem dX4_allStatementsCome_67 : decode cX4_allStatementsCome 67 = .ok (.istore_n 1, 1) := by decide +kernel
theorem dX4_allStatementsCome_68 : decode cX4_allStatementsCome 68 = .ok (.iinc 2 1, 3) := by decide +kernel
theorem dX4_allStatementsCome_71 : decode cX4_allStatementsCome 71 = .ok (.goto (-56), 3) := by decide +kernel
theorem dX4_allStatementsCome_74 : decode cX4_allStatementsCome 74 = .ok (.aload_n 0, 1) := by decide +kernel
theorem dX4_allStatementsCome_75 : decode cX4_allStatementsCome 75 = .ok (.getfield 10, 3) := by decide +kernel
theorem dX4_allStatementsCome_78 : decode cX4_allStatementsCome 78 = .ok (.aload_n 0, 1) := by decide +kernel
theorem dX4_allStatementsCome_79 : decode cX4_allStatementsCome 79 = .ok (.getfield 16, 3) := by decide +kernel
theorem dX4_allStatementsCome_82 : decode cX4_allStatementsCome 82 = .ok (.invokevirtual 82, 3) := by decide +kernel
theorem dX4_allStatementsCome_85 : decode cX4_allStatementsCome 85 = .ok (.iload_n 2, 1) := by decide +kernel
theorem dX4_allStatementsCome_86 : decode cX4_allStatementsCome 86 = .ok (.ireturn, 1) := by decide +kernel
theorem dX4_isAsItMustBe_0 : decode cX4_isAsItMustBe 0 = .ok (.aload_n 0, 1) := by decide +kernel
theorem dX4_isAsItMustBe_1 : decode cX4_isAsItMustBe 1 = .ok (.getfield 29, 3) := by decide +kernel
theorem dX4_isAsItMustBe_4 : decode cX4_isAsItMustBe 4 = .ok (.iload_n 1, 1) := by decide +kernel
theorem dX4_isAsItMustBe_5 : decode cX4_isAsItMustBe 5 = .ok (.iconst 1, 1) := by decide +kernel
theorem dX4_isAsItMustBe_6 : decode cX4_isAsItMustBe 6 = .ok (.iadd, 1) := by decide +kernel
theorem dX4_isAsItMustBe_7 : decode cX4_isAsItMustBe 7 = .ok (.invokevirtual 102, 3) := by decide +kernel
theorem dX4_isAsItMustBe_10 : decode cX4_isAsItMustBe 10 = .ok (.istore_n 2, 1) := by decide +kernel
theorem dX4_isAsItMustBe_11 : decode cX4_isAsItMustBe 11 = .ok (.aload_n 0, 1) := by decide +kernel
theorem dX4_isAsItMustBe_12 : decode cX4_isAsItMustBe 12 = .ok (.getfield 29, 3) := by decide +kernel
theorem dX4_isAsItMustBe_15 : decode cX4_isAsItMustBe 15 = .ok (.iload_n 1, 1) := by decide +kernel
theorem dX4_isAsItMustBe_16 : decode cX4_isAsItMustBe 16 = .ok (.iconst 2, 1) := by decide +kernel
theorem dX4_isAsItMustBe_17 : decode cX4_isAsItMustBe 17 = .ok (.iadd, 1) := by decide +kernel
theorem dX4_isAsItMustBe_18 : decode cX4_isAsItMustBe 18 = .ok (.invokevirtual 102, 3) := by decide +kernel
theorem dX4_isAsItMustBe_21 : decode cX4_isAsItMustBe 21 = .ok (.istore_n 3, 1) := by decide +kernel
theorem dX4_isAsItMustBe_22 : decode cX4_isAsItMustBe 22 = .ok (.aload_n 0, 1) := by decide +kernel
theorem dX4_isAsItMustBe_23 : decode cX4_isAsItMustBe 23 = .ok (.getfield 29, 3) := by decide +kernel
theorem dX4_isAsItMustBe_26 : decode cX4_isAsItMustBe 26 = .ok (.getfield 62, 3) := by decide +kernel
theorem dX4_isAsItMustBe_29 : decode cX4_isAsItMustBe 29 = .ok (.iload_n 1, 1) := by decide +kernel
theorem dX4_isAsItMustBe_30 : decode cX4_isAsItMustBe 30 = .ok (.invokevirtual 105, 3) := by decide +kernel
theorem dX4_isAsItMustBe_33 : decode cX4_isAsItMustBe 33 = .ok (.tableswitch 87 119 121 #[27, 45, 55], 27) := by decide +kernel
theorem dX4_isAsItMustBe_60 : decode cX4_isAsItMustBe 60 = .ok (.aload_n 0, 1) := by decide +kernel
theorem dX4_isAsItMustBe_61 : decode cX4_isAsItMustBe 61 = .ok (.getfield 16, 3) := by decide +kernel
theorem dX4_isAsItMustBe_64 : decode cX4_isAsItMustBe 64 = .ok (.getfield 108, 3) := by decide +kernel
theorem dX4_isAsItMustBe_67 : decode cX4_isAsItMustBe 67 = .ok (.bipush 7, 2) := by decide +kernel
theorem dX4_isAsItMustBe_69 : decode cX4_isAsItMustBe 69 = .ok (.if_icmp .ge 7, 3) := by decide +kernel
theorem dX4_isAsItMustBe_72 : decode cX4_isAsItMustBe 72 = .ok (.iconst 1, 1) := by decide +kernel
theorem dX4_isAsItMustBe_73 : decode cX4_isAsItMustBe 73 = .ok (.goto 4, 3) := by decide +kernel
theorem dX4_isAsItMustBe_76 : decode cX4_isAsItMustBe 76 = .ok (.iconst 0, 1) := by decide +kernel
theorem dX4_isAsItMustBe_77 : decode cX4_isAsItMustBe 77 = .ok (.ireturn, 1) := by decide +kernel
theorem dX4_isAsItMustBe_78 : decode cX4_isAsItMustBe 78 = .ok (.aload_n 0, 1) := by decide +kernel
theorem dX4_isAsItMustBe_79 : decode cX4_isAsItMustBe 79 = .ok (.getfield 16, 3) := by decide +kernel
theorem dX4_isAsItMustBe_82 : decode cX4_isAsItMustBe 82 = .ok (.iload_n 2, 1) := by decide +kernel
theorem dX4_isAsItMustBe_83 : decode cX4_isAsItMustBe 83 = .ok (.iload_n 3, 1) := by decide +kernel
theorem dX4_isAsItMustBe_84 : decode cX4_isAsItMustBe 84 = .ok (.invokevirtual 109, 3) := by decide +kernel
theorem dX4_isAsItMustBe_87 : decode cX4_isAsItMustBe 87 = .ok (.ireturn, 1) := by decide +kernel
theorem dX4_isAsItMustBe_88 : decode cX4_isAsItMustBe 88 = .ok (.bipush 10, 2) := by decide +kernel
theorem dX4_isAsItMustBe_90 : decode cX4_isAsItMustBe 90 = .ok (.iload_n 2, 1) := by decide +kernel
theorem dX4_isAsItMustBe_91 : decode cX4_isAsItMustBe 91 = .ok (.imul, 1) := by decide +kernel
theorem dX4_isAsItMustBe_92 : decode cX4_isAsItMustBe 92 = .ok (.iload_n 3, 1) := by decide +kernel
theorem dX4_isAsItMustBe_93 : decode cX4_isAsItMustBe 93 = .ok (.iadd, 1) := by decide +kernel
theorem dX4_isAsItMustBe_94 : decode cX4_isAsItMustBe 94 = .ok (.iconst 1, 1) := by decide +kernel
theorem dX4_isAsItMustBe_95 : decode cX4_isAsItMustBe 95 = .ok (.if_icmp .lt 23, 3) := by decide +kernel
theorem dX4_isAsItMustBe_98 : decode cX4_isAsItMustBe 98 = .ok (.aload_n 0, 1) := by decide +kernel
theorem dX4_isAsItMustBe_99 : decode cX4_isAsItMustBe 99 = .ok (.getfield 16, 3) := by decide +kernel
theorem dX4_isAsItMustBe_102 : decode cX4_isAsItMustBe 102 = .ok (.bipush 10, 2) := by decide +kernel
theorem dX4_isAsItMustBe_104 : decode cX4_isAsItMustBe 104 = .ok (.iload_n 2, 1) := by decide +kernel
theorem dX4_isAsItMustBe_105 : decode cX4_isAsItMustBe 105 = .ok (.imul, 1) := by decide +kernel
theorem dX4_isAsItMustBe_106 : decode cX4_isAsItMustBe 106 = .ok (.iload_n 3, 1) := by decide +kernel
theorem dX4_isAsItMustBe_107 : decode cX4_isAsItMustBe 107 = .ok (.iadd, 1) := by decide +kernel
theorem dX4_isAsItMustBe_108 : decode cX4_isAsItMustBe 108 = .ok (.invokevirtual 113, 3) := by decide +kernel
theorem dX4_isAsItMustBe_111 : decode cX4_isAsItMustBe 111 = .ok (.ifCond .eq 7, 3) := by decide +kernel
theorem dX4_isAsItMustBe_114 : decode cX4_isAsItMustBe 114 = .ok (.iconst 1, 1) := by decide +kernel
theorem dX4_isAsItMustBe_115 : decode cX4_isAsItMustBe 115 = .ok (.goto 4, 3) := by decide +kernel
theorem dX4_isAsItMustBe_118 : decode cX4_isAsItMustBe 118 = .ok (.iconst 0, 1) := by decide +kernel
theorem dX4_isAsItMustBe_119 : decode cX4_isAsItMustBe 119 = .ok (.ireturn, 1) := by decide +kernel
theorem dX4_isAsItMustBe_120 : decode cX4_isAsItMustBe 120 = .ok (.aload_n 0, 1) := by decide +kernel
theorem dX4_isAsItMustBe_121 : decode cX4_isAsItMustBe 121 = .ok (.getfield 16, 3) := by decide +kernel
theorem dX4_isAsItMustBe_124 : decode cX4_isAsItMustBe 124 = .ok (.iload_n 2, 1) := by decide +kernel
theorem dX4_isAsItMustBe_125 : decode cX4_isAsItMustBe 125 = .ok (.invokevirtual 116, 3) := by decide +kernel
theorem dX4_isAsItMustBe_128 : decode cX4_isAsItMustBe 128 = .ok (.ireturn, 1) := by decide +kernel
theorem dX4_statementComes_0 : decode cX4_statementComes 0 = .ok (.aload_n 0, 1) := by decide +kernel
theorem dX4_statementComes_1 : decode cX4_statementComes 1 = .ok (.getfield 29, 3) := by decide +kernel
theorem dX4_statementComes_4 : decode cX4_statementComes 4 = .ok (.iload_n 1, 1) := by decide +kernel
theorem dX4_statementComes_5 : decode cX4_statementComes 5 = .ok (.iconst 1, 1) := by decide +kernel
theorem dX4_statementComes_6 : decode cX4_statementComes 6 = .ok (.iadd, 1) := by decide +kernel
theorem dX4_statementComes_7 : decode cX4_statementComes 7 = .ok (.invokevirtual 102, 3) := by decide +kernel
theorem dX4_statementComes_10 : decode cX4_statementComes 10 = .ok (.istore_n 2, 1) := by decide +kernel
theorem dX4_statementComes_11 : decode cX4_statementComes 11 = .ok (.aload_n 0, 1) := by decide +kernel
theorem dX4_statementComes_12 : decode cX4_statementComes 12 = .ok (.getfield 29, 3) := by decide +kernel
theorem dX4_statementComes_15 : decode cX4_statementComes 15 = .ok (.iload_n 1, 1) := by decide +kernel
theorem dX4_statementComes_16 : decode cX4_statementComes 16 = .ok (.iconst 2, 1) := by decide +kernel
theorem dX4_statementComes_17 : decode cX4_statementComes 17 = .ok (.iadd, 1) := by decide +kernel
theorem dX4_statementComes_18 : decode cX4_statementComes 18 = .ok (.invokevirtual 102, 3) := by decide +kernel
theorem dX4_statementComes_21 : decode cX4_statementComes 21 = .ok (.istore_n 3, 1) := by decide +kernel
theorem dX4_statementComes_22 : decode cX4_statementComes 22 = .ok (.aload_n 0, 1) := by decide +kernel
theorem dX4_statementComes_23 : decode cX4_statementComes 23 = .ok (.getfield 29, 3) := by decide +kernel
theorem dX4_statementComes_26 : decode cX4_statementComes 26 = .ok (.iload_n 1, 1) := by decide +kernel
theorem dX4_statementComes_27 : decode cX4_statementComes 27 = .ok (.iconst 3, 1) := by decide +kernel
theorem dX4_statementComes_28 : decode cX4_statementComes 28 = .ok (.iadd, 1) := by decide +kernel
theorem dX4_statementComes_29 : decode cX4_statementComes 29 = .ok (.invokevirtual 102, 3) := by decide +kernel
theorem dX4_statementComes_32 : decode cX4_statementComes 32 = .ok (.istore 4, 2) := by decide +kernel
theorem dX4_statementComes_34 : decode cX4_statementComes 34 = .ok (.aload_n 0, 1) := by decide +kernel
theorem dX4_statementComes_35 : decode cX4_statementComes 35 = .ok (.getfield 29, 3) := by decide +kernel
theorem dX4_statementComes_38 : decode cX4_statementComes 38 = .ok (.getfield 62, 3) := by decide +kernel
theorem dX4_statementComes_41 : decode cX4_statementComes 41 = .ok (.iload_n 1, 1) := by decide +kernel
theorem dX4_statementComes_42 : decode cX4_statementComes 42 = .ok (.invokevirtual 105, 3) := by decide +kernel
theorem dX4_statementComes_45 : decode cX4_statementComes 45 = .ok (.tableswitch 193 102 121 #[156, 193, 193, 193, 193, 193, 193, 193, 193, 193, 193, 193, 193, 130, 141, 193, 193, 95, 118, 177], 95) := by decide +kernel
theorem dX4_statementComes_140 : decode cX4_statementComes 140 = .ok (.aload_n 0, 1) := by decide +kernel
theorem dX4_statementComes_141 : decode cX4_statementComes 141 = .ok (.getfield 16, 3) := by decide +kernel
theorem dX4_statementComes_144 : decode cX4_statementComes 144 = .ok (.aload_n 0, 1) := by decide +kernel
theorem dX4_statementComes_145 : decode cX4_statementComes 145 = .ok (.getfield 29, 3) := by decide +kernel
theorem dX4_statementComes_148 : decode cX4_statementComes 148 = .ok (.iload_n 1, 1) := by decide +kernel
theorem dX4_statementComes_149 : decode cX4_statementComes 149 = .ok (.iconst 1, 1) := by decide +kernel
theorem dX4_statementComes_150 : decode cX4_statementComes 150 = .ok (.iadd, 1) := by decide +kernel
theorem dX4_statementComes_151 : decode cX4_statementComes 151 = .ok (.invokevirtual 119, 3) := by decide +kernel
theorem dX4_statementComes_154 : decode cX4_statementComes 154 = .ok (.iload_n 3, 1) := by decide +kernel
theorem dX4_statementComes_155 : decode cX4_statementComes 155 = .ok (.iload 4, 2) := by decide +kernel
theorem dX4_statementComes_157 : decode cX4_statementComes 157 = .ok (.invokevirtual 122, 3) := by decide +kernel
theorem dX4_statementComes_160 : decode cX4_statementComes 160 = .ok (.goto 78, 3) := by decide +kernel
theorem dX4_statementComes_163 : decode cX4_statementComes 163 = .ok (.aload_n 0, 1) := by decide +kernel
theorem dX4_statementComes_164 : decode cX4_statementComes 164 = .ok (.getfield 16, 3) := by decide +kernel
theorem dX4_statementComes_167 : decode cX4_statementComes 167 = .ok (.iload_n 2, 1) := by decide +kernel
theorem dX4_statementComes_168 : decode cX4_statementComes 168 = .ok (.iload_n 3, 1) := by decide +kernel
theorem dX4_statementComes_169 : decode cX4_statementComes 169 = .ok (.invokevirtual 126, 3) := by decide +kernel
theorem dX4_statementComes_172 : decode cX4_statementComes 172 = .ok (.goto 66, 3) := by decide +kernel
theorem dX4_statementComes_175 : decode cX4_statementComes 175 = .ok (.aload_n 0, 1) := by decide +kernel
theorem dX4_statementComes_176 : decode cX4_statementComes 176 = .ok (.getfield 16, 3) := by decide +kernel
theorem dX4_statementComes_179 : decode cX4_statementComes 179 = .ok (.iload_n 2, 1) := by decide +kernel
theorem dX4_statementComes_180 : decode cX4_statementComes 180 = .ok (.invokevirtual 130, 3) := by decide +kernel
theorem dX4_statementComes_183 : decode cX4_statementComes 183 = .ok (.goto 55, 3) := by decide +kernel
theorem dX4_statementComes_186 : decode cX4_statementComes 186 = .ok (.aload_n 0, 1) := by decide +kernel
theorem dX4_statementComes_187 : decode cX4_statementComes 187 = .ok (.getfield 16, 3) := by decide +kernel
theorem dX4_statementComes_190 : decode cX4_statementComes 190 = .ok (.getfield 133, 3) := by decide +kernel
theorem dX4_statementComes_193 : decode cX4_statementComes 193 = .ok (.iload_n 2, 1) := by decide +kernel
theorem dX4_statementComes_194 : decode cX4_statementComes 194 = .ok (.iload_n 3, 1) := by decide +kernel
theorem dX4_statementComes_195 : decode cX4_statementComes 195 = .ok (.invokevirtual 136, 3) := by decide +kernel
theorem dX4_statementComes_198 : decode cX4_statementComes 198 = .ok (.goto 40, 3) := by decide +kernel
theorem dX4_statementComes_201 : decode cX4_statementComes 201 = .ok (.aload_n 0, 1) := by decide +kernel
theorem dX4_statementComes_202 : decode cX4_statementComes 202 = .ok (.getfield 16, 3) := by decide +kernel
theorem dX4_statementComes_205 : decode cX4_statementComes 205 = .ok (.getfield 139, 3) := by decide +kernel
theorem dX4_statementComes_208 : decode cX4_statementComes 208 = .ok (.iload_n 2, 1) := by decide +kernel
theorem dX4_statementComes_209 : decode cX4_statementComes 209 = .ok (.bipush 10, 2) := by decide +kernel
theorem dX4_statementComes_211 : decode cX4_statementComes 211 = .ok (.iload_n 3, 1) := by decide +kernel
theorem dX4_statementComes_212 : decode cX4_statementComes 212 = .ok (.imul, 1) := by decide +kernel
theorem dX4_statementComes_213 : decode cX4_statementComes 213 = .ok (.iload 4, 2) := by decide +kernel
theorem dX4_statementComes_215 : decode cX4_statementComes 215 = .ok (.iadd, 1) := by decide +kernel
theorem dX4_statementComes_216 : decode cX4_statementComes 216 = .ok (.invokevirtual 136, 3) := by decide +kernel
theorem dX4_statementComes_219 : decode cX4_statementComes 219 = .ok (.goto 19, 3) := by decide +kernel
theorem dX4_statementComes_222 : decode cX4_statementComes 222 = .ok (.aload_n 0, 1) := by decide +kernel
theorem dX4_statementComes_223 : decode cX4_statementComes 223 = .ok (.getfield 16, 3) := by decide +kernel
theorem dX4_statementComes_226 : decode cX4_statementComes 226 = .ok (.bipush 10, 2) := by decide +kernel
theorem dX4_statementComes_228 : decode cX4_statementComes 228 = .ok (.iload_n 2, 1) := by decide +kernel
theorem dX4_statementComes_229 : decode cX4_statementComes 229 = .ok (.imul, 1) := by decide +kernel
theorem dX4_statementComes_230 : decode cX4_statementComes 230 = .ok (.iload_n 3, 1) := by decide +kernel
theorem dX4_statementComes_231 : decode cX4_statementComes 231 = .ok (.iadd, 1) := by decide +kernel
theorem dX4_statementComes_232 : decode cX4_statementComes 232 = .ok (.invokevirtual 142, 3) := by decide +kernel
theorem dX4_statementComes_235 : decode cX4_statementComes 235 = .ok (.goto 3, 3) := by decide +kernel
theorem dX4_statementComes_238 : decode cX4_statementComes 238 = .ok (.return_, 1) := by decide +kernel
theorem dX4_writer_0 : decode cX4_writer 0 = .ok (.aload_n 0, 1) := by decide +kernel
theorem dX4_writer_1 : decode cX4_writer 1 = .ok (.getfield 10, 3) := by decide +kernel
theorem dX4_writer_4 : decode cX4_writer 4 = .ok (.iload_n 1, 1) := by decide +kernel
theorem dX4_writer_5 : decode cX4_writer 5 = .ok (.invokevirtual 116, 3) := by decide +kernel
theorem dX4_writer_8 : decode cX4_writer 8 = .ok (.ifCond .ne 9, 3) := by decide +kernel
theorem dX4_writer_11 : decode cX4_writer 11 = .ok (.aload_n 0, 1) := by decide +kernel
theorem dX4_writer_12 : decode cX4_writer 12 = .ok (.iconst (-1), 1) := by decide +kernel
theorem dX4_writer_13 : decode cX4_writer 13 = .ok (.invokevirtual 58, 3) := by decide +kernel
theorem dX4_writer_16 : decode cX4_writer 16 = .ok (.ireturn, 1) := by decide +kernel
theorem dX4_writer_17 : decode cX4_writer 17 = .ok (.iload_n 2, 1) := by decide +kernel
theorem dX4_writer_18 : decode cX4_writer 18 = .ok (.tableswitch 123 0 6 #[42, 54, 66, 78, 90, 102, 111], 42) := by decide +kernel
theorem dX4_writer_60 : decode cX4_writer 60 = .ok (.aload_n 0, 1) := by decide +kernel
theorem dX4_writer_61 : decode cX4_writer 61 = .ok (.getfield 10, 3) := by decide +kernel
theorem dX4_writer_64 : decode cX4_writer 64 = .ok (.getfield 145, 3) := by decide +kernel
theorem dX4_writer_67 : decode cX4_writer 67 = .ok (.iload_n 1, 1) := by decide +kernel
theorem dX4_writer_68 : decode cX4_writer 68 = .ok (.invokevirtual 105, 3) := by decide +kernel
theorem dX4_writer_71 : decode cX4_writer 71 = .ok (.ireturn, 1) := by decide +kernel
theorem dX4_writer_72 : decode cX4_writer 72 = .ok (.aload_n 0, 1) := by decide +kernel
theorem dX4_writer_73 : decode cX4_writer 73 = .ok (.getfield 10, 3) := by decide +kernel
theorem dX4_writer_76 : decode cX4_writer 76 = .ok (.getfield 148, 3) := by decide +kernel
theorem dX4_writer_79 : decode cX4_writer 79 = .ok (.iload_n 1, 1) := by decide +kernel
theorem dX4_writer_80 : decode cX4_writer 80 = .ok (.invokevirtual 105, 3) := by decide +kernel
theorem dX4_writer_83 : decode cX4_writer 83 = .ok (.ireturn, 1) := by decide +kernel
theorem dX4_writer_84 : decode cX4_writer 84 = .ok (.aload_n 0, 1) := by decide +kernel
theorem dX4_writer_85 : decode cX4_writer 85 = .ok (.getfield 10, 3) := by decide +kernel
theorem dX4_writer_88 : decode cX4_writer 88 = .ok (.getfield 133, 3) := by decide +kernel
theorem dX4_writer_91 : decode cX4_writer 91 = .ok (.iload_n 1, 1) := by decide +kernel
theorem dX4_writer_92 : decode cX4_writer 92 = .ok (.invokevirtual 105, 3) := by decide +kernel
theorem dX4_writer_95 : decode cX4_writer 95 = .ok (.ireturn, 1) := by decide +kernel
theorem dX4_writer_96 : decode cX4_writer 96 = .ok (.aload_n 0, 1) := by decide +kernel
theorem dX4_writer_97 : decode cX4_writer 97 = .ok (.getfield 10, 3) := by decide +kernel
theorem dX4_writer_100 : decode cX4_writer 100 = .ok (.getfield 139, 3) := by decide +kernel
theorem dX4_writer_103 : decode cX4_writer 103 = .ok (.iload_n 1, 1) := by decide +kernel
theorem dX4_writer_104 : decode cX4_writer 104 = .ok (.invokevirtual 105, 3) := by decide +kernel
theorem dX4_writer_107 : decode cX4_writer 107 = .ok (.ireturn, 1) := by decide +kernel
theorem dX4_writer_108 : decode cX4_writer 108 = .ok (.aload_n 0, 1) := by decide +kernel
theorem dX4_writer_109 : decode cX4_writer 109 = .ok (.getfield 10, 3) := by decide +kernel
theorem dX4_writer_112 : decode cX4_writer 112 = .ok (.getfield 151, 3) := by decide +kernel
theorem dX4_writer_115 : decode cX4_writer 115 = .ok (.iload_n 1, 1) := by decide +kernel
theorem dX4_writer_116 : decode cX4_writer 116 = .ok (.invokevirtual 105, 3) := by decide +kernel
theorem dX4_writer_119 : decode cX4_writer 119 = .ok (.ireturn, 1) := by decide +kernel
theorem dX4_writer_120 : decode cX4_writer 120 = .ok (.aload_n 0, 1) := by decide +kernel
theorem dX4_writer_121 : decode cX4_writer 121 = .ok (.getfield 10, 3) := by decide +kernel
theorem dX4_writer_124 : decode cX4_writer 124 = .ok (.iload_n 1, 1) := by decide +kernel
theorem dX4_writer_125 : decode cX4_writer 125 = .ok (.invokevirtual 154, 3) := by decide +kernel
theorem dX4_writer_128 : decode cX4_writer 128 = .ok (.ireturn, 1) := by decide +kernel
theorem dX4_writer_129 : decode cX4_writer 129 = .ok (.aload_n 0, 1) := by decide +kernel
theorem dX4_writer_130 : decode cX4_writer 130 = .ok (.getfield 10, 3) := by decide +kernel
theorem dX4_writer_133 : decode cX4_writer 133 = .ok (.getfield 157, 3) := by decide +kernel
theorem dX4_writer_136 : decode cX4_writer 136 = .ok (.iload_n 1, 1) := by decide +kernel
theorem dX4_writer_137 : decode cX4_writer 137 = .ok (.invokevirtual 105, 3) := by decide +kernel
theorem dX4_writer_140 : decode cX4_writer 140 = .ok (.ireturn, 1) := by decide +kernel
theorem dX4_writer_141 : decode cX4_writer 141 = .ok (.aload_n 0, 1) := by decide +kernel
theorem dX4_writer_142 : decode cX4_writer 142 = .ok (.bipush (-2), 2) := by decide +kernel
theorem dX4_writer_144 : decode cX4_writer 144 = .ok (.invokevirtual 58, 3) := by decide +kernel
theorem dX4_writer_147 : decode cX4_writer 147 = .ok (.ireturn, 1) := by decide +kernel
theorem dX4_place_0 : decode cX4_place 0 = .ok (.iload_n 1, 1) := by decide +kernel
theorem dX4_place_1 : decode cX4_place 1 = .ok (.ifCond .ge 10, 3) := by decide +kernel
theorem dX4_place_4 : decode cX4_place 4 = .ok (.aload_n 0, 1) := by decide +kernel
theorem dX4_place_5 : decode cX4_place 5 = .ok (.bipush (-4), 2) := by decide +kernel
theorem dX4_place_7 : decode cX4_place 7 = .ok (.invokevirtual 58, 3) := by decide +kernel
theorem dX4_place_10 : decode cX4_place 10 = .ok (.ireturn, 1) := by decide +kernel
theorem dX4_place_11 : decode cX4_place 11 = .ok (.iload_n 1, 1) := by decide +kernel
theorem dX4_place_12 : decode cX4_place 12 = .ok (.aload_n 0, 1) := by decide +kernel
theorem dX4_place_13 : decode cX4_place 13 = .ok (.getfield 10, 3) := by decide +kernel
theorem dX4_place_16 : decode cX4_place 16 = .ok (.getfield 108, 3) := by decide +kernel
theorem dX4_place_19 : decode cX4_place 19 = .ok (.if_icmp .ge 17, 3) := by decide +kernel
theorem dX4_place_22 : decode cX4_place 22 = .ok (.aload_n 0, 1) := by decide +kernel
theorem dX4_place_23 : decode cX4_place 23 = .ok (.getfield 10, 3) := by decide +kernel
theorem dX4_place_26 : decode cX4_place 26 = .ok (.getfield 160, 3) := by decide +kernel
theorem dX4_place_29 : decode cX4_place 29 = .ok (.iload_n 1, 1) := by decide +kernel
theorem dX4_place_30 : decode cX4_place 30 = .ok (.invokevirtual 105, 3) := by decide +kernel
theorem dX4_place_33 : decode cX4_place 33 = .ok (.goto 5, 3) := by decide +kernel
theorem dX4_place_36 : decode cX4_place 36 = .ok (.bipush (-9), 2) := by decide +kernel
theorem dX4_place_38 : decode cX4_place 38 = .ok (.ireturn, 1) := by decide +kernel
theorem dX4_book_0 : decode cX4_book 0 = .ok (.aload_n 0, 1) := by decide +kernel
theorem dX4_book_1 : decode cX4_book 1 = .ok (.iload_n 1, 1) := by decide +kernel
theorem dX4_book_2 : decode cX4_book 2 = .ok (.iload_n 2, 1) := by decide +kernel
theorem dX4_book_3 : decode cX4_book 3 = .ok (.iconst 2, 1) := by decide +kernel
theorem dX4_book_4 : decode cX4_book 4 = .ok (.invokevirtual 163, 3) := by decide +kernel
theorem dX4_book_7 : decode cX4_book 7 = .ok (.istore_n 3, 1) := by decide +kernel
theorem dX4_book_8 : decode cX4_book 8 = .ok (.iload_n 3, 1) := by decide +kernel
theorem dX4_book_9 : decode cX4_book 9 = .ok (.ifCond .eq 9, 3) := by decide +kernel
theorem dX4_book_12 : decode cX4_book 12 = .ok (.aload_n 0, 1) := by decide +kernel
theorem dX4_book_13 : decode cX4_book 13 = .ok (.iload_n 3, 1) := by decide +kernel
theorem dX4_book_14 : decode cX4_book 14 = .ok (.invokevirtual 167, 3) := by decide +kernel
theorem dX4_book_17 : decode cX4_book 17 = .ok (.ireturn, 1) := by decide +kernel
theorem dX4_book_18 : decode cX4_book 18 = .ok (.iload_n 2, 1) := by decide +kernel
theorem dX4_book_19 : decode cX4_book 19 = .ok (.ifCond .ne 12, 3) := by decide +kernel
theorem dX4_book_22 : decode cX4_book 22 = .ok (.aload_n 0, 1) := by decide +kernel
theorem dX4_book_23 : decode cX4_book 23 = .ok (.getfield 10, 3) := by decide +kernel
theorem dX4_book_26 : decode cX4_book 26 = .ok (.iload_n 1, 1) := by decide +kernel
theorem dX4_book_27 : decode cX4_book 27 = .ok (.invokevirtual 170, 3) := by decide +kernel
theorem dX4_book_30 : decode cX4_book 30 = .ok (.ireturn, 1) := by decide +kernel
theorem dX4_book_31 : decode cX4_book 31 = .ok (.iload_n 2, 1) := by decide +kernel
theorem dX4_book_32 : decode cX4_book 32 = .ok (.iconst 1, 1) := by decide +kernel
theorem dX4_book_33 : decode cX4_book 33 = .ok (.if_icmp .ne 14, 3) := by decide +kernel
theorem dX4_book_36 : decode cX4_book 36 = .ok (.aload_n 0, 1) := by decide +kernel
theorem dX4_book_37 : decode cX4_book 37 = .ok (.getfield 10, 3) := by decide +kernel
theorem dX4_book_40 : decode cX4_book 40 = .ok (.iload_n 1, 1) := by decide +kernel
theorem dX4_book_41 : decode cX4_book 41 = .ok (.invokevirtual 173, 3) := by decide +kernel
theorem dX4_book_44 : decode cX4_book 44 = .ok (.goto 11, 3) := by decide +kernel
theorem dX4_book_47 : decode cX4_book 47 = .ok (.aload_n 0, 1) := by decide +kernel
theorem dX4_book_48 : decode cX4_book 48 = .ok (.getfield 10, 3) := by decide +kernel
theorem dX4_book_51 : decode cX4_book 51 = .ok (.iload_n 1, 1) := by decide +kernel
theorem dX4_book_52 : decode cX4_book 52 = .ok (.invokevirtual 176, 3) := by decide +kernel
theorem dX4_book_55 : decode cX4_book 55 = .ok (.ireturn, 1) := by decide +kernel
theorem dX4_refusalOfBook_0 : decode cX4_refusalOfBook 0 = .ok (.aload_n 0, 1) := by decide +kernel
theorem dX4_refusalOfBook_1 : decode cX4_refusalOfBook 1 = .ok (.getfield 10, 3) := by decide +kernel
theorem dX4_refusalOfBook_4 : decode cX4_refusalOfBook 4 = .ok (.iload_n 1, 1) := by decide +kernel
theorem dX4_refusalOfBook_5 : decode cX4_refusalOfBook 5 = .ok (.invokevirtual 116, 3) := by decide +kernel
theorem dX4_refusalOfBook_8 : decode cX4_refusalOfBook 8 = .ok (.ifCond .ne 5, 3) := by decide +kernel
theorem dX4_refusalOfBook_11 : decode cX4_refusalOfBook 11 = .ok (.iconst (-1), 1) := by decide +kernel
theorem dX4_refusalOfBook_12 : decode cX4_refusalOfBook 12 = .ok (.ireturn, 1) := by decide +kernel
theorem dX4_refusalOfBook_13 : decode cX4_refusalOfBook 13 = .ok (.iload_n 2, 1) := by decide +kernel
theorem dX4_refusalOfBook_14 : decode cX4_refusalOfBook 14 = .ok (.ifCond .lt 8, 3) := by decide +kernel
theorem dX4_refusalOfBook_17 : decode cX4_refusalOfBook 17 = .ok (.iload_n 2, 1) := by decide +kernel
theorem dX4_refusalOfBook_18 : decode cX4_refusalOfBook 18 = .ok (.iload_n 3, 1) := by decide +kernel
theorem dX4_refusalOfBook_19 : decode cX4_refusalOfBook 19 = .ok (.if_icmp .le 6, 3) := by decide +kernel
theorem dX4_refusalOfBook_22 : decode cX4_refusalOfBook 22 = .ok (.bipush (-2), 2) := by decide +kernel
theorem dX4_refusalOfBook_24 : decode cX4_refusalOfBook 24 = .ok (.ireturn, 1) := by decide +kernel
theorem dX4_refusalOfBook_25 : decode cX4_refusalOfBook 25 = .ok (.aload_n 0, 1) := by decide +kernel
theorem dX4_refusalOfBook_26 : decode cX4_refusalOfBook 26 = .ok (.getfield 10, 3) := by decide +kernel
theorem dX4_refusalOfBook_29 : decode cX4_refusalOfBook 29 = .ok (.iload_n 1, 1) := by decide +kernel
theorem dX4_refusalOfBook_30 : decode cX4_refusalOfBook 30 = .ok (.invokevirtual 179, 3) := by decide +kernel
theorem dX4_refusalOfBook_33 : decode cX4_refusalOfBook 33 = .ok (.ifCond .eq 7, 3) := by decide +kernel
theorem dX4_refusalOfBook_36 : decode cX4_refusalOfBook 36 = .ok (.iconst 0, 1) := by decide +kernel
theorem dX4_refusalOfBook_37 : decode cX4_refusalOfBook 37 = .ok (.goto 5, 3) := by decide +kernel
theorem dX4_refusalOfBook_40 : decode cX4_refusalOfBook 40 = .ok (.bipush (-3), 2) := by decide +kernel
theorem dX4_refusalOfBook_42 : decode cX4_refusalOfBook 42 = .ok (.ireturn, 1) := by decide +kernel
theorem dX4_changes_0 : decode cX4_changes 0 = .ok (.aload_n 0, 1) := by decide +kernel
theorem dX4_changes_1 : decode cX4_changes 1 = .ok (.getfield 10, 3) := by decide +kernel
theorem dX4_changes_4 : decode cX4_changes 4 = .ok (.iload_n 1, 1) := by decide +kernel
theorem dX4_changes_5 : decode cX4_changes 5 = .ok (.iload_n 2, 1) := by decide +kernel
theorem dX4_changes_6 : decode cX4_changes 6 = .ok (.invokevirtual 109, 3) := by decide +kernel
theorem dX4_changes_9 : decode cX4_changes 9 = .ok (.ifCond .ne 9, 3) := by decide +kernel
theorem dX4_changes_12 : decode cX4_changes 12 = .ok (.aload_n 0, 1) := by decide +kernel
theorem dX4_changes_13 : decode cX4_changes 13 = .ok (.iconst (-1), 1) := by decide +kernel
theorem dX4_changes_14 : decode cX4_changes 14 = .ok (.invokevirtual 58, 3) := by decide +kernel
theorem dX4_changes_17 : decode cX4_changes 17 = .ok (.ireturn, 1) := by decide +kernel
theorem dX4_changes_18 : decode cX4_changes 18 = .ok (.aload_n 0, 1) := by decide +kernel
theorem dX4_changes_19 : decode cX4_changes 19 = .ok (.getfield 10, 3) := by decide +kernel
theorem dX4_changes_22 : decode cX4_changes 22 = .ok (.iload_n 1, 1) := by decide +kernel
theorem dX4_changes_23 : decode cX4_changes 23 = .ok (.iload_n 2, 1) := by decide +kernel
theorem dX4_changes_24 : decode cX4_changes 24 = .ok (.invokevirtual 126, 3) := by decide +kernel
theorem dX4_changes_27 : decode cX4_changes 27 = .ok (.aload_n 0, 1) := by decide +kernel
theorem dX4_changes_28 : decode cX4_changes 28 = .ok (.getfield 10, 3) := by decide +kernel
theorem dX4_changes_31 : decode cX4_changes 31 = .ok (.iload_n 1, 1) := by decide +kernel
theorem dX4_changes_32 : decode cX4_changes 32 = .ok (.invokevirtual 154, 3) := by decide +kernel
theorem dX4_changes_35 : decode cX4_changes 35 = .ok (.ireturn, 1) := by decide +kernel
theorem dX4_hushes_0 : decode cX4_hushes 0 = .ok (.aload_n 0, 1) := by decide +kernel
theorem dX4_hushes_1 : decode cX4_hushes 1 = .ok (.getfield 10, 3) := by decide +kernel
theorem dX4_hushes_4 : decode cX4_hushes 4 = .ok (.iload_n 1, 1) := by decide +kernel
theorem dX4_hushes_5 : decode cX4_hushes 5 = .ok (.invokevirtual 116, 3) := by decide +kernel
theorem dX4_hushes_8 : decode cX4_hushes 8 = .ok (.ifCond .ne 9, 3) := by decide +kernel
theorem dX4_hushes_11 : decode cX4_hushes 11 = .ok (.aload_n 0, 1) := by decide +kernel
theorem dX4_hushes_12 : decode cX4_hushes 12 = .ok (.iconst (-1), 1) := by decide +kernel
theorem dX4_hushes_13 : decode cX4_hushes 13 = .ok (.invokevirtual 58, 3) := by decide +kernel
theorem dX4_hushes_16 : decode cX4_hushes 16 = .ok (.ireturn, 1) := by decide +kernel
theorem dX4_hushes_17 : decode cX4_hushes 17 = .ok (.aload_n 0, 1) := by decide +kernel
theorem dX4_hushes_18 : decode cX4_hushes 18 = .ok (.getfield 10, 3) := by decide +kernel
theorem dX4_hushes_21 : decode cX4_hushes 21 = .ok (.iload_n 1, 1) := by decide +kernel
theorem dX4_hushes_22 : decode cX4_hushes 22 = .ok (.invokevirtual 130, 3) := by decide +kernel
theorem dX4_hushes_25 : decode cX4_hushes 25 = .ok (.aload_n 0, 1) := by decide +kernel
theorem dX4_hushes_26 : decode cX4_hushes 26 = .ok (.getfield 10, 3) := by decide +kernel
theorem dX4_hushes_29 : decode cX4_hushes 29 = .ok (.getfield 151, 3) := by decide +kernel
theorem dX4_hushes_32 : decode cX4_hushes 32 = .ok (.iload_n 1, 1) := by decide +kernel
theorem dX4_hushes_33 : decode cX4_hushes 33 = .ok (.invokevirtual 105, 3) := by decide +kernel
theorem dX4_hushes_36 : decode cX4_hushes 36 = .ok (.ireturn, 1) := by decide +kernel
theorem dX4_styles_0 : decode cX4_styles 0 = .ok (.aload_n 0, 1) := by decide +kernel
theorem dX4_styles_1 : decode cX4_styles 1 = .ok (.iload_n 1, 1) := by decide +kernel
theorem dX4_styles_2 : decode cX4_styles 2 = .ok (.iload_n 2, 1) := by decide +kernel
theorem dX4_styles_3 : decode cX4_styles 3 = .ok (.bipush 9, 2) := by decide +kernel
theorem dX4_styles_5 : decode cX4_styles 5 = .ok (.invokevirtual 182, 3) := by decide +kernel
theorem dX4_styles_8 : decode cX4_styles 8 = .ok (.istore_n 3, 1) := by decide +kernel
theorem dX4_styles_9 : decode cX4_styles 9 = .ok (.iload_n 3, 1) := by decide +kernel
theorem dX4_styles_10 : decode cX4_styles 10 = .ok (.ifCond .eq 9, 3) := by decide +kernel
theorem dX4_styles_13 : decode cX4_styles 13 = .ok (.aload_n 0, 1) := by decide +kernel
theorem dX4_styles_14 : decode cX4_styles 14 = .ok (.iload_n 3, 1) := by decide +kernel
theorem dX4_styles_15 : decode cX4_styles 15 = .ok (.invokevirtual 58, 3) := by decide +kernel
theorem dX4_styles_18 : decode cX4_styles 18 = .ok (.ireturn, 1) := by decide +kernel
theorem dX4_styles_19 : decode cX4_styles 19 = .ok (.aload_n 0, 1) := by decide +kernel
theorem dX4_styles_20 : decode cX4_styles 20 = .ok (.getfield 10, 3) := by decide +kernel
theorem dX4_styles_23 : decode cX4_styles 23 = .ok (.getfield 133, 3) := by decide +kernel
theorem dX4_styles_26 : decode cX4_styles 26 = .ok (.iload_n 1, 1) := by decide +kernel
theorem dX4_styles_27 : decode cX4_styles 27 = .ok (.invokevirtual 105, 3) := by decide +kernel
theorem dX4_styles_30 : decode cX4_styles 30 = .ok (.istore 4, 2) := by decide +kernel
theorem dX4_styles_32 : decode cX4_styles 32 = .ok (.aload_n 0, 1) := by decide +kernel
theorem dX4_styles_33 : decode cX4_styles 33 = .ok (.getfield 10, 3) := by decide +kernel
theorem dX4_styles_36 : decode cX4_styles 36 = .ok (.getfield 133, 3) := by decide +kernel
theorem dX4_styles_39 : decode cX4_styles 39 = .ok (.iload_n 1, 1) := by decide +kernel
theorem dX4_styles_40 : decode cX4_styles 40 = .ok (.iload_n 2, 1) := by decide +kernel
theorem dX4_styles_41 : decode cX4_styles 41 = .ok (.invokevirtual 136, 3) := by decide +kernel
theorem dX4_styles_44 : decode cX4_styles 44 = .ok (.iload 4, 2) := by decide +kernel
theorem dX4_styles_46 : decode cX4_styles 46 = .ok (.ireturn, 1) := by decide +kernel
theorem dX4_famed_0 : decode cX4_famed 0 = .ok (.aload_n 0, 1) := by decide +kernel
theorem dX4_famed_1 : decode cX4_famed 1 = .ok (.iload_n 1, 1) := by decide +kernel
theorem dX4_famed_2 : decode cX4_famed 2 = .ok (.iload_n 2, 1) := by decide +kernel
theorem dX4_famed_3 : decode cX4_famed 3 = .ok (.bipush 99, 2) := by decide +kernel
theorem dX4_famed_5 : decode cX4_famed 5 = .ok (.invokevirtual 182, 3) := by decide +kernel
theorem dX4_famed_8 : decode cX4_famed 8 = .ok (.istore_n 3, 1) := by decide +kernel
theorem dX4_famed_9 : decode cX4_famed 9 = .ok (.iload_n 3, 1) := by decide +kernel
theorem dX4_famed_10 : decode cX4_famed 10 = .ok (.ifCond .eq 9, 3) := by decide +kernel
theorem dX4_famed_13 : decode cX4_famed 13 = .ok (.aload_n 0, 1) := by decide +kernel
theorem dX4_famed_14 : decode cX4_famed 14 = .ok (.iload_n 3, 1) := by decide +kernel
theorem dX4_famed_15 : decode cX4_famed 15 = .ok (.invokevirtual 58, 3) := by decide +kernel
theorem dX4_famed_18 : decode cX4_famed 18 = .ok (.ireturn, 1) := by decide +kernel
theorem dX4_famed_19 : decode cX4_famed 19 = .ok (.aload_n 0, 1) := by decide +kernel
theorem dX4_famed_20 : decode cX4_famed 20 = .ok (.getfield 10, 3) := by decide +kernel
theorem dX4_famed_23 : decode cX4_famed 23 = .ok (.getfield 139, 3) := by decide +kernel
theorem dX4_famed_26 : decode cX4_famed 26 = .ok (.iload_n 1, 1) := by decide +kernel
theorem dX4_famed_27 : decode cX4_famed 27 = .ok (.invokevirtual 105, 3) := by decide +kernel
theorem dX4_famed_30 : decode cX4_famed 30 = .ok (.istore 4, 2) := by decide +kernel
theorem dX4_famed_32 : decode cX4_famed 32 = .ok (.aload_n 0, 1) := by decide +kernel
theorem dX4_famed_33 : decode cX4_famed 33 = .ok (.getfield 10, 3) := by decide +kernel
theorem dX4_famed_36 : decode cX4_famed 36 = .ok (.getfield 139, 3) := by decide +kernel
theorem dX4_famed_39 : decode cX4_famed 39 = .ok (.iload_n 1, 1) := by decide +kernel
theorem dX4_famed_40 : decode cX4_famed 40 = .ok (.iload_n 2, 1) := by decide +kernel
theorem dX4_famed_41 : decode cX4_famed 41 = .ok (.invokevirtual 136, 3) := by decide +kernel
theorem dX4_famed_44 : decode cX4_famed 44 = .ok (.iload 4, 2) := by decide +kernel
theorem dX4_famed_46 : decode cX4_famed 46 = .ok (.ireturn, 1) := by decide +kernel
theorem dX4_refusalOfNumber_0 : decode cX4_refusalOfNumber 0 = .ok (.aload_n 0, 1) := by decide +kernel
theorem dX4_refusalOfNumber_1 : decode cX4_refusalOfNumber 1 = .ok (.getfield 10, 3) := by decide +kernel
theorem dX4_refusalOfNumber_4 : decode cX4_refusalOfNumber 4 = .ok (.iload_n 1, 1) := by decide +kernel
theorem dX4_refusalOfNumber_5 : decode cX4_refusalOfNumber 5 = .ok (.invokevirtual 116, 3) := by decide +kernel
theorem dX4_refusalOfNumber_8 : decode cX4_refusalOfNumber 8 = .ok (.ifCond .ne 5, 3) := by decide +kernel
theorem dX4_refusalOfNumber_11 : decode cX4_refusalOfNumber 11 = .ok (.iconst (-1), 1) := by decide +kernel
theorem dX4_refusalOfNumber_12 : decode cX4_refusalOfNumber 12 = .ok (.ireturn, 1) := by decide +kernel
theorem dX4_refusalOfNumber_13 : decode cX4_refusalOfNumber 13 = .ok (.iload_n 2, 1) := by decide +kernel
theorem dX4_refusalOfNumber_14 : decode cX4_refusalOfNumber 14 = .ok (.ifCond .ge 6, 3) := by decide +kernel
theorem dX4_refusalOfNumber_17 : decode cX4_refusalOfNumber 17 = .ok (.bipush (-4), 2) := by decide +kernel
theorem dX4_refusalOfNumber_19 : decode cX4_refusalOfNumber 19 = .ok (.ireturn, 1) := by decide +kernel
theorem dX4_refusalOfNumber_20 : decode cX4_refusalOfNumber 20 = .ok (.iload_n 2, 1) := by decide +kernel
theorem dX4_refusalOfNumber_21 : decode cX4_refusalOfNumber 21 = .ok (.iload_n 3, 1) := by decide +kernel
theorem dX4_refusalOfNumber_22 : decode cX4_refusalOfNumber 22 = .ok (.if_icmp .le 8, 3) := by decide +kernel
theorem dX4_refusalOfNumber_25 : decode cX4_refusalOfNumber 25 = .ok (.bipush (-6), 2) := by decide +kernel
theorem dX4_refusalOfNumber_27 : decode cX4_refusalOfNumber 27 = .ok (.goto 4, 3) := by decide +kernel
theorem dX4_refusalOfNumber_30 : decode cX4_refusalOfNumber 30 = .ok (.iconst 0, 1) := by decide +kernel
theorem dX4_refusalOfNumber_31 : decode cX4_refusalOfNumber 31 = .ok (.ireturn, 1) := by decide +kernel
theorem dX4_turn_0 : decode cX4_turn 0 = .ok (.aload_n 0, 1) := by decide +kernel
theorem dX4_turn_1 : decode cX4_turn 1 = .ok (.getfield 10, 3) := by decide +kernel
theorem dX4_turn_4 : decode cX4_turn 4 = .ok (.iload_n 1, 1) := by decide +kernel
theorem dX4_turn_5 : decode cX4_turn 5 = .ok (.invokevirtual 116, 3) := by decide +kernel
theorem dX4_turn_8 : decode cX4_turn 8 = .ok (.ifCond .ne 9, 3) := by decide +kernel
theorem dX4_turn_11 : decode cX4_turn 11 = .ok (.aload_n 0, 1) := by decide +kernel
theorem dX4_turn_12 : decode cX4_turn 12 = .ok (.iconst (-1), 1) := by decide +kernel
theorem dX4_turn_13 : decode cX4_turn 13 = .ok (.invokevirtual 58, 3) := by decide +kernel
theorem dX4_turn_16 : decode cX4_turn 16 = .ok (.ireturn, 1) := by decide +kernel
theorem dX4_turn_17 : decode cX4_turn 17 = .ok (.iload_n 2, 1) := by decide +kernel
theorem dX4_turn_18 : decode cX4_turn 18 = .ok (.ifCond .lt 9, 3) := by decide +kernel
theorem dX4_turn_21 : decode cX4_turn 21 = .ok (.iload_n 2, 1) := by decide +kernel
theorem dX4_turn_22 : decode cX4_turn 22 = .ok (.bipush 6, 2) := by decide +kernel
theorem dX4_turn_24 : decode cX4_turn 24 = .ok (.if_icmp .lt 10, 3) := by decide +kernel
theorem dX4_turn_27 : decode cX4_turn 27 = .ok (.aload_n 0, 1) := by decide +kernel
theorem dX4_turn_28 : decode cX4_turn 28 = .ok (.bipush (-2), 2) := by decide +kernel
theorem dX4_turn_30 : decode cX4_turn 30 = .ok (.invokevirtual 58, 3) := by decide +kernel
theorem dX4_turn_33 : decode cX4_turn 33 = .ok (.ireturn, 1) := by decide +kernel
theorem dX4_turn_34 : decode cX4_turn 34 = .ok (.iload_n 3, 1) := by decide +kernel
theorem dX4_turn_35 : decode cX4_turn 35 = .ok (.ifCond .ge 10, 3) := by decide +kernel
theorem dX4_turn_38 : decode cX4_turn 38 = .ok (.aload_n 0, 1) := by decide +kernel
theorem dX4_turn_39 : decode cX4_turn 39 = .ok (.bipush (-4), 2) := by decide +kernel
theorem dX4_turn_41 : decode cX4_turn 41 = .ok (.invokevirtual 58, 3) := by decide +kernel
theorem dX4_turn_44 : decode cX4_turn 44 = .ok (.ireturn, 1) := by decide +kernel
theorem dX4_turn_45 : decode cX4_turn 45 = .ok (.iload_n 3, 1) := by decide +kernel
theorem dX4_turn_46 : decode cX4_turn 46 = .ok (.bipush 10, 2) := by decide +kernel
theorem dX4_turn_48 : decode cX4_turn 48 = .ok (.if_icmp .lt 10, 3) := by decide +kernel
theorem dX4_turn_51 : decode cX4_turn 51 = .ok (.aload_n 0, 1) := by decide +kernel
theorem dX4_turn_52 : decode cX4_turn 52 = .ok (.bipush (-6), 2) := by decide +kernel
theorem dX4_turn_54 : decode cX4_turn 54 = .ok (.invokevirtual 58, 3) := by decide +kernel
theorem dX4_turn_57 : decode cX4_turn 57 = .ok (.ireturn, 1) := by decide +kernel
theorem dX4_turn_58 : decode cX4_turn 58 = .ok (.bipush 10, 2) := by decide +kernel
theorem dX4_turn_60 : decode cX4_turn 60 = .ok (.aload_n 0, 1) := by decide +kernel
theorem dX4_turn_61 : decode cX4_turn 61 = .ok (.getfield 10, 3) := by decide +kernel
theorem dX4_turn_64 : decode cX4_turn 64 = .ok (.getfield 145, 3) := by decide +kernel
theorem dX4_turn_67 : decode cX4_turn 67 = .ok (.iload_n 1, 1) := by decide +kernel
theorem dX4_turn_68 : decode cX4_turn 68 = .ok (.invokevirtual 105, 3) := by decide +kernel
theorem dX4_turn_71 : decode cX4_turn 71 = .ok (.imul, 1) := by decide +kernel
theorem dX4_turn_72 : decode cX4_turn 72 = .ok (.aload_n 0, 1) := by decide +kernel
theorem dX4_turn_73 : decode cX4_turn 73 = .ok (.getfield 10, 3) := by decide +kernel
theorem dX4_turn_76 : decode cX4_turn 76 = .ok (.getfield 148, 3) := by decide +kernel
theorem dX4_turn_79 : decode cX4_turn 79 = .ok (.iload_n 1, 1) := by decide +kernel
theorem dX4_turn_80 : decode cX4_turn 80 = .ok (.invokevirtual 105, 3) := by decide +kernel
theorem dX4_turn_83 : decode cX4_turn 83 = .ok (.iadd, 1) := by decide +kernel
theorem dX4_turn_84 : decode cX4_turn 84 = .ok (.istore 4, 2) := by decide +kernel
theorem dX4_turn_86 : decode cX4_turn 86 = .ok (.aload_n 0, 1) := by decide +kernel
theorem dX4_turn_87 : decode cX4_turn 87 = .ok (.getfield 10, 3) := by decide +kernel
theorem dX4_turn_90 : decode cX4_turn 90 = .ok (.getfield 145, 3) := by decide +kernel
theorem dX4_turn_93 : decode cX4_turn 93 = .ok (.iload_n 1, 1) := by decide +kernel
theorem dX4_turn_94 : decode cX4_turn 94 = .ok (.iload_n 2, 1) := by decide +kernel
theorem dX4_turn_95 : decode cX4_turn 95 = .ok (.invokevirtual 136, 3) := by decide +kernel
theorem dX4_turn_98 : decode cX4_turn 98 = .ok (.aload_n 0, 1) := by decide +kernel
theorem dX4_turn_99 : decode cX4_turn 99 = .ok (.getfield 10, 3) := by decide +kernel
theorem dX4_turn_102 : decode cX4_turn 102 = .ok (.getfield 148, 3) := by decide +kernel
theorem dX4_turn_105 : decode cX4_turn 105 = .ok (.iload_n 1, 1) := by decide +kernel
theorem dX4_turn_106 : decode cX4_turn 106 = .ok (.iload_n 3, 1) := by decide +kernel
theorem dX4_turn_107 : decode cX4_turn 107 = .ok (.invokevirtual 136, 3) := by decide +kernel
theorem dX4_turn_110 : decode cX4_turn 110 = .ok (.iload 4, 2) := by decide +kernel
theorem dX4_turn_112 : decode cX4_turn 112 = .ok (.ireturn, 1) := by decide +kernel
theorem dX4_years_0 : decode cX4_years 0 = .ok (.iload_n 1, 1) := by decide +kernel
theorem dX4_years_1 : decode cX4_years 1 = .ok (.iconst 1, 1) := by decide +kernel
theorem dX4_years_2 : decode cX4_years 2 = .ok (.if_icmp .ge 10, 3) := by decide +kernel
theorem dX4_years_5 : decode cX4_years 5 = .ok (.aload_n 0, 1) := by decide +kernel
theorem dX4_years_6 : decode cX4_years 6 = .ok (.bipush (-4), 2) := by decide +kernel
theorem dX4_years_8 : decode cX4_years 8 = .ok (.invokevirtual 58, 3) := by decide +kernel
theorem dX4_years_11 : decode cX4_years 11 = .ok (.ireturn, 1) := by decide +kernel
theorem dX4_years_12 : decode cX4_years 12 = .ok (.aload_n 0, 1) := by decide +kernel
theorem dX4_years_13 : decode cX4_years 13 = .ok (.getfield 10, 3) := by decide +kernel
theorem dX4_years_16 : decode cX4_years 16 = .ok (.iload_n 1, 1) := by decide +kernel
theorem dX4_years_17 : decode cX4_years 17 = .ok (.invokevirtual 113, 3) := by decide +kernel
theorem dX4_years_20 : decode cX4_years 20 = .ok (.ifCond .ne 10, 3) := by decide +kernel
theorem dX4_years_23 : decode cX4_years 23 = .ok (.aload_n 0, 1) := by decide +kernel
theorem dX4_years_24 : decode cX4_years 24 = .ok (.bipush (-6), 2) := by decide +kernel
theorem dX4_years_26 : decode cX4_years 26 = .ok (.invokevirtual 58, 3) := by decide +kernel
theorem dX4_years_29 : decode cX4_years 29 = .ok (.ireturn, 1) := by decide +kernel
theorem dX4_years_30 : decode cX4_years 30 = .ok (.aload_n 0, 1) := by decide +kernel
theorem dX4_years_31 : decode cX4_years 31 = .ok (.getfield 10, 3) := by decide +kernel
theorem dX4_years_34 : decode cX4_years 34 = .ok (.iload_n 1, 1) := by decide +kernel
theorem dX4_years_35 : decode cX4_years 35 = .ok (.invokevirtual 142, 3) := by decide +kernel
theorem dX4_years_38 : decode cX4_years 38 = .ok (.aload_n 0, 1) := by decide +kernel
theorem dX4_years_39 : decode cX4_years 39 = .ok (.getfield 10, 3) := by decide +kernel
theorem dX4_years_42 : decode cX4_years 42 = .ok (.getfield 139, 3) := by decide +kernel
theorem dX4_years_45 : decode cX4_years 45 = .ok (.aload_n 0, 1) := by decide +kernel
theorem dX4_years_46 : decode cX4_years 46 = .ok (.getfield 10, 3) := by decide +kernel
theorem dX4_years_49 : decode cX4_years 49 = .ok (.getfield 108, 3) := by decide +kernel
theorem dX4_years_52 : decode cX4_years 52 = .ok (.invokevirtual 185, 3) := by decide +kernel
theorem dX4_years_55 : decode cX4_years 55 = .ok (.ireturn, 1) := by decide +kernel
theorem dX4_fameThen_0 : decode cX4_fameThen 0 = .ok (.aload_n 0, 1) := by decide +kernel
theorem dX4_fameThen_1 : decode cX4_fameThen 1 = .ok (.iload_n 1, 1) := by decide +kernel
theorem dX4_fameThen_2 : decode cX4_fameThen 2 = .ok (.iload_n 2, 1) := by decide +kernel
theorem dX4_fameThen_3 : decode cX4_fameThen 3 = .ok (.bipush 60, 2) := by decide +kernel
theorem dX4_fameThen_5 : decode cX4_fameThen 5 = .ok (.invokevirtual 182, 3) := by decide +kernel
theorem dX4_fameThen_8 : decode cX4_fameThen 8 = .ok (.istore_n 3, 1) := by decide +kernel
theorem dX4_fameThen_9 : decode cX4_fameThen 9 = .ok (.iload_n 3, 1) := by decide +kernel
theorem dX4_fameThen_10 : decode cX4_fameThen 10 = .ok (.ifCond .eq 9, 3) := by decide +kernel
theorem dX4_fameThen_13 : decode cX4_fameThen 13 = .ok (.aload_n 0, 1) := by decide +kernel
theorem dX4_fameThen_14 : decode cX4_fameThen 14 = .ok (.iload_n 3, 1) := by decide +kernel
theorem dX4_fameThen_15 : decode cX4_fameThen 15 = .ok (.invokevirtual 58, 3) := by decide +kernel
theorem dX4_fameThen_18 : decode cX4_fameThen 18 = .ok (.ireturn, 1) := by decide +kernel
theorem dX4_fameThen_19 : decode cX4_fameThen 19 = .ok (.aload_n 0, 1) := by decide +kernel
theorem dX4_fameThen_20 : decode cX4_fameThen 20 = .ok (.getfield 16, 3) := by decide +kernel
theorem dX4_fameThen_23 : decode cX4_fameThen 23 = .ok (.aload_n 0, 1) := by decide +kernel
theorem dX4_fameThen_24 : decode cX4_fameThen 24 = .ok (.getfield 10, 3) := by decide +kernel
theorem dX4_fameThen_27 : decode cX4_fameThen 27 = .ok (.invokevirtual 82, 3) := by decide +kernel
theorem dX4_fameThen_30 : decode cX4_fameThen 30 = .ok (.aload_n 0, 1) := by decide +kernel
theorem dX4_fameThen_31 : decode cX4_fameThen 31 = .ok (.getfield 16, 3) := by decide +kernel
theorem dX4_fameThen_34 : decode cX4_fameThen 34 = .ok (.iload_n 2, 1) := by decide +kernel
theorem dX4_fameThen_35 : decode cX4_fameThen 35 = .ok (.invokevirtual 142, 3) := by decide +kernel
theorem dX4_fameThen_38 : decode cX4_fameThen 38 = .ok (.aload_n 0, 1) := by decide +kernel
theorem dX4_fameThen_39 : decode cX4_fameThen 39 = .ok (.getfield 16, 3) := by decide +kernel
theorem dX4_fameThen_42 : decode cX4_fameThen 42 = .ok (.getfield 139, 3) := by decide +kernel
theorem dX4_fameThen_45 : decode cX4_fameThen 45 = .ok (.iload_n 1, 1) := by decide +kernel
theorem dX4_fameThen_46 : decode cX4_fameThen 46 = .ok (.invokevirtual 105, 3) := by decide +kernel
theorem dX4_fameThen_49 : decode cX4_fameThen 49 = .ok (.ireturn, 1) := by decide +kernel
theorem dX4_opensThen_0 : decode cX4_opensThen 0 = .ok (.aload_n 0, 1) := by decide +kernel
theorem dX4_opensThen_1 : decode cX4_opensThen 1 = .ok (.iload_n 1, 1) := by decide +kernel
theorem dX4_opensThen_2 : decode cX4_opensThen 2 = .ok (.iload_n 2, 1) := by decide +kernel
theorem dX4_opensThen_3 : decode cX4_opensThen 3 = .ok (.bipush 60, 2) := by decide +kernel
theorem dX4_opensThen_5 : decode cX4_opensThen 5 = .ok (.invokevirtual 182, 3) := by decide +kernel
theorem dX4_opensThen_8 : decode cX4_opensThen 8 = .ok (.istore_n 3, 1) := by decide +kernel
theorem dX4_opensThen_9 : decode cX4_opensThen 9 = .ok (.iload_n 3, 1) := by decide +kernel
theorem dX4_opensThen_10 : decode cX4_opensThen 10 = .ok (.ifCond .eq 9, 3) := by decide +kernel
theorem dX4_opensThen_13 : decode cX4_opensThen 13 = .ok (.aload_n 0, 1) := by decide +kernel
theorem dX4_opensThen_14 : decode cX4_opensThen 14 = .ok (.iload_n 3, 1) := by decide +kernel
theorem dX4_opensThen_15 : decode cX4_opensThen 15 = .ok (.invokevirtual 58, 3) := by decide +kernel
theorem dX4_opensThen_18 : decode cX4_opensThen 18 = .ok (.ireturn, 1) := by decide +kernel
theorem dX4_opensThen_19 : decode cX4_opensThen 19 = .ok (.aload_n 0, 1) := by decide +kernel
theorem dX4_opensThen_20 : decode cX4_opensThen 20 = .ok (.getfield 10, 3) := by decide +kernel
theorem dX4_opensThen_23 : decode cX4_opensThen 23 = .ok (.getfield 133, 3) := by decide +kernel
theorem dX4_opensThen_26 : decode cX4_opensThen 26 = .ok (.iload_n 1, 1) := by decide +kernel
theorem dX4_opensThen_27 : decode cX4_opensThen 27 = .ok (.invokevirtual 105, 3) := by decide +kernel
theorem dX4_opensThen_30 : decode cX4_opensThen 30 = .ok (.aload_n 0, 1) := by decide +kernel
theorem dX4_opensThen_31 : decode cX4_opensThen 31 = .ok (.getfield 10, 3) := by decide +kernel
theorem dX4_opensThen_34 : decode cX4_opensThen 34 = .ok (.getfield 188, 3) := by decide +kernel
theorem dX4_opensThen_37 : decode cX4_opensThen 37 = .ok (.iload_n 2, 1) := by decide +kernel
theorem dX4_opensThen_38 : decode cX4_opensThen 38 = .ok (.iadd, 1) := by decide +kernel
theorem dX4_opensThen_39 : decode cX4_opensThen 39 = .ok (.invokestatic 191, 3) := by decide +kernel
theorem dX4_opensThen_42 : decode cX4_opensThen 42 = .ok (.ireturn, 1) := by decide +kernel
theorem dX4_famous_0 : decode cX4_famous 0 = .ok (.aload_n 0, 1) := by decide +kernel
theorem dX4_famous_1 : decode cX4_famous 1 = .ok (.iload_n 1, 1) := by decide +kernel
theorem dX4_famous_2 : decode cX4_famous 2 = .ok (.iload_n 2, 1) := by decide +kernel
theorem dX4_famous_3 : decode cX4_famous 3 = .ok (.bipush 99, 2) := by decide +kernel
theorem dX4_famous_5 : decode cX4_famous 5 = .ok (.invokevirtual 182, 3) := by decide +kernel
theorem dX4_famous_8 : decode cX4_famous 8 = .ok (.istore_n 3, 1) := by decide +kernel
theorem dX4_famous_9 : decode cX4_famous 9 = .ok (.iload_n 3, 1) := by decide +kernel
theorem dX4_famous_10 : decode cX4_famous 10 = .ok (.ifCond .eq 9, 3) := by decide +kernel
theorem dX4_famous_13 : decode cX4_famous 13 = .ok (.aload_n 0, 1) := by decide +kernel
theorem dX4_famous_14 : decode cX4_famous 14 = .ok (.iload_n 3, 1) := by decide +kernel
theorem dX4_famous_15 : decode cX4_famous 15 = .ok (.invokevirtual 58, 3) := by decide +kernel
theorem dX4_famous_18 : decode cX4_famous 18 = .ok (.ireturn, 1) := by decide +kernel
theorem dX4_famous_19 : decode cX4_famous 19 = .ok (.aload_n 0, 1) := by decide +kernel
theorem dX4_famous_20 : decode cX4_famous 20 = .ok (.getfield 16, 3) := by decide +kernel
theorem dX4_famous_23 : decode cX4_famous 23 = .ok (.aload_n 0, 1) := by decide +kernel
theorem dX4_famous_24 : decode cX4_famous 24 = .ok (.getfield 10, 3) := by decide +kernel
theorem dX4_famous_27 : decode cX4_famous 27 = .ok (.invokevirtual 82, 3) := by decide +kernel
theorem dX4_famous_30 : decode cX4_famous 30 = .ok (.iconst 0, 1) := by decide +kernel
theorem dX4_famous_31 : decode cX4_famous 31 = .ok (.istore 4, 2) := by decide +kernel
theorem dX4_famous_33 : decode cX4_famous 33 = .ok (.iload 4, 2) := by decide +kernel
theorem dX4_famous_35 : decode cX4_famous 35 = .ok (.bipush 60, 2) := by decide +kernel
theorem dX4_famous_37 : decode cX4_famous 37 = .ok (.if_icmp .gt 35, 3) := by decide +kernel
theorem dX4_famous_40 : decode cX4_famous 40 = .ok (.aload_n 0, 1) := by decide +kernel
theorem dX4_famous_41 : decode cX4_famous 41 = .ok (.getfield 16, 3) := by decide +kernel
theorem dX4_famous_44 : decode cX4_famous 44 = .ok (.getfield 139, 3) := by decide +kernel
theorem dX4_famous_47 : decode cX4_famous 47 = .ok (.iload_n 1, 1) := by decide +kernel
theorem dX4_famous_48 : decode cX4_famous 48 = .ok (.invokevirtual 105, 3) := by decide +kernel
theorem dX4_famous_51 : decode cX4_famous 51 = .ok (.iload_n 2, 1) := by decide +kernel
theorem dX4_famous_52 : decode cX4_famous 52 = .ok (.if_icmp .lt 6, 3) := by decide +kernel
theorem dX4_famous_55 : decode cX4_famous 55 = .ok (.iload 4, 2) := by decide +kernel
theorem dX4_famous_57 : decode cX4_famous 57 = .ok (.ireturn, 1) := by decide +kernel
theorem dX4_famous_58 : decode cX4_famous 58 = .ok (.aload_n 0, 1) := by decide +kernel
theorem dX4_famous_59 : decode cX4_famous 59 = .ok (.getfield 16, 3) := by decide +kernel
theorem dX4_famous_62 : decode cX4_famous 62 = .ok (.iconst 1, 1) := by decide +kernel
theorem dX4_famous_63 : decode cX4_famous 63 = .ok (.invokevirtual 142, 3) := by decide +kernel
theorem dX4_famous_66 : decode cX4_famous 66 = .ok (.iinc 4 1, 3) := by decide +kernel
theorem dX4_famous_69 : decode cX4_famous 69 = .ok (.goto (-36), 3) := by decide +kernel
theorem dX4_famous_72 : decode cX4_famous 72 = .ok (.bipush (-9), 2) := by decide +kernel
theorem dX4_famous_74 : decode cX4_famous 74 = .ok (.ireturn, 1) := by decide +kernel
theorem dX4_first_0 : decode cX4_first 0 = .ok (.iload_n 1, 1) := by decide +kernel
theorem dX4_first_1 : decode cX4_first 1 = .ok (.ifCond .eq 15, 3) := by decide +kernel
theorem dX4_first_4 : decode cX4_first 4 = .ok (.iload_n 1, 1) := by decide +kernel
theorem dX4_first_5 : decode cX4_first 5 = .ok (.iconst 1, 1) := by decide +kernel
theorem dX4_first_6 : decode cX4_first 6 = .ok (.if_icmp .eq 10, 3) := by decide +kernel
theorem dX4_first_9 : decode cX4_first 9 = .ok (.aload_n 0, 1) := by decide +kernel
theorem dX4_first_10 : decode cX4_first 10 = .ok (.bipush (-2), 2) := by decide +kernel
theorem dX4_first_12 : decode cX4_first 12 = .ok (.invokevirtual 58, 3) := by decide +kernel
theorem dX4_first_15 : decode cX4_first 15 = .ok (.ireturn, 1) := by decide +kernel
theorem dX4_first_16 : decode cX4_first 16 = .ok (.aload_n 0, 1) := by decide +kernel
theorem dX4_first_17 : decode cX4_first 17 = .ok (.getfield 16, 3) := by decide +kernel
theorem dX4_first_20 : decode cX4_first 20 = .ok (.aload_n 0, 1) := by decide +kernel
theorem dX4_first_21 : decode cX4_first 21 = .ok (.getfield 10, 3) := by decide +kernel
theorem dX4_first_24 : decode cX4_first 24 = .ok (.invokevirtual 82, 3) := by decide +kernel
theorem dX4_first_27 : decode cX4_first 27 = .ok (.iconst 0, 1) := by decide +kernel
theorem dX4_first_28 : decode cX4_first 28 = .ok (.istore_n 2, 1) := by decide +kernel
theorem dX4_first_29 : decode cX4_first 29 = .ok (.iload_n 2, 1) := by decide +kernel
theorem dX4_first_30 : decode cX4_first 30 = .ok (.bipush 60, 2) := by decide +kernel
theorem dX4_first_32 : decode cX4_first 32 = .ok (.if_icmp .gt 41, 3) := by decide +kernel
theorem dX4_first_35 : decode cX4_first 35 = .ok (.aload_n 0, 1) := by decide +kernel
theorem dX4_first_36 : decode cX4_first 36 = .ok (.getfield 16, 3) := by decide +kernel
theorem dX4_first_39 : decode cX4_first 39 = .ok (.invokevirtual 195, 3) := by decide +kernel
theorem dX4_first_42 : decode cX4_first 42 = .ok (.istore_n 3, 1) := by decide +kernel
theorem dX4_first_43 : decode cX4_first 43 = .ok (.iload_n 3, 1) := by decide +kernel
theorem dX4_first_44 : decode cX4_first 44 = .ok (.bipush (-9), 2) := by decide +kernel
theorem dX4_first_46 : decode cX4_first 46 = .ok (.if_icmp .eq 13, 3) := by decide +kernel
theorem dX4_first_49 : decode cX4_first 49 = .ok (.iload_n 1, 1) := by decide +kernel
theorem dX4_first_50 : decode cX4_first 50 = .ok (.ifCond .ne 7, 3) := by decide +kernel
theorem dX4_first_53 : decode cX4_first 53 = .ok (.iload_n 3, 1) := by decide +kernel
theorem dX4_first_54 : decode cX4_first 54 = .ok (.goto 4, 3) := by decide +kernel
theorem dX4_first_57 : decode cX4_first 57 = .ok (.iload_n 2, 1) := by decide +kernel
theorem dX4_first_58 : decode cX4_first 58 = .ok (.ireturn, 1) := by decide +kernel
theorem dX4_first_59 : decode cX4_first 59 = .ok (.aload_n 0, 1) := by decide +kernel
theorem dX4_first_60 : decode cX4_first 60 = .ok (.getfield 16, 3) := by decide +kernel
theorem dX4_first_63 : decode cX4_first 63 = .ok (.iconst 1, 1) := by decide +kernel
theorem dX4_first_64 : decode cX4_first 64 = .ok (.invokevirtual 142, 3) := by decide +kernel
theorem dX4_first_67 : decode cX4_first 67 = .ok (.iinc 2 1, 3) := by decide +kernel
theorem dX4_first_70 : decode cX4_first 70 = .ok (.goto (-41), 3) := by decide +kernel
theorem dX4_first_73 : decode cX4_first 73 = .ok (.bipush (-9), 2) := by decide +kernel
theorem dX4_first_75 : decode cX4_first 75 = .ok (.ireturn, 1) := by decide +kernel
theorem dX4_leads_0 : decode cX4_leads 0 = .ok (.iload_n 1, 1) := by decide +kernel
theorem dX4_leads_1 : decode cX4_leads 1 = .ok (.ifCond .ge 10, 3) := by decide +kernel
theorem dX4_leads_4 : decode cX4_leads 4 = .ok (.aload_n 0, 1) := by decide +kernel
theorem dX4_leads_5 : decode cX4_leads 5 = .ok (.bipush (-4), 2) := by decide +kernel
theorem dX4_leads_7 : decode cX4_leads 7 = .ok (.invokevirtual 58, 3) := by decide +kernel
theorem dX4_leads_10 : decode cX4_leads 10 = .ok (.ireturn, 1) := by decide +kernel
theorem dX4_leads_11 : decode cX4_leads 11 = .ok (.iload_n 1, 1) := by decide +kernel
theorem dX4_leads_12 : decode cX4_leads 12 = .ok (.bipush 60, 2) := by decide +kernel
theorem dX4_leads_14 : decode cX4_leads 14 = .ok (.if_icmp .le 10, 3) := by decide +kernel
theorem dX4_leads_17 : decode cX4_leads 17 = .ok (.aload_n 0, 1) := by decide +kernel
theorem dX4_leads_18 : decode cX4_leads 18 = .ok (.bipush (-6), 2) := by decide +kernel
theorem dX4_leads_20 : decode cX4_leads 20 = .ok (.invokevirtual 58, 3) := by decide +kernel
theorem dX4_leads_23 : decode cX4_leads 23 = .ok (.ireturn, 1) := by decide +kernel
theorem dX4_leads_24 : decode cX4_leads 24 = .ok (.aload_n 0, 1) := by decide +kernel
theorem dX4_leads_25 : decode cX4_leads 25 = .ok (.getfield 16, 3) := by decide +kernel
theorem dX4_leads_28 : decode cX4_leads 28 = .ok (.aload_n 0, 1) := by decide +kernel
theorem dX4_leads_29 : decode cX4_leads 29 = .ok (.getfield 10, 3) := by decide +kernel
theorem dX4_leads_32 : decode cX4_leads 32 = .ok (.invokevirtual 82, 3) := by decide +kernel
theorem dX4_leads_35 : decode cX4_leads 35 = .ok (.aload_n 0, 1) := by decide +kernel
theorem dX4_leads_36 : decode cX4_leads 36 = .ok (.getfield 16, 3) := by decide +kernel
theorem dX4_leads_39 : decode cX4_leads 39 = .ok (.iload_n 1, 1) := by decide +kernel
theorem dX4_leads_40 : decode cX4_leads 40 = .ok (.invokevirtual 142, 3) := by decide +kernel
theorem dX4_leads_43 : decode cX4_leads 43 = .ok (.bipush (-9), 2) := by decide +kernel
theorem dX4_leads_45 : decode cX4_leads 45 = .ok (.istore_n 2, 1) := by decide +kernel
theorem dX4_leads_46 : decode cX4_leads 46 = .ok (.iconst 0, 1) := by decide +kernel
theorem dX4_leads_47 : decode cX4_leads 47 = .ok (.istore_n 3, 1) := by decide +kernel
theorem dX4_leads_48 : decode cX4_leads 48 = .ok (.iload_n 3, 1) := by decide +kernel
theorem dX4_leads_49 : decode cX4_leads 49 = .ok (.aload_n 0, 1) := by decide +kernel
theorem dX4_leads_50 : decode cX4_leads 50 = .ok (.getfield 16, 3) := by decide +kernel
theorem dX4_leads_53 : decode cX4_leads 53 = .ok (.getfield 108, 3) := by decide +kernel
theorem dX4_leads_56 : decode cX4_leads 56 = .ok (.if_icmp .ge 42, 3) := by decide +kernel
theorem dX4_leads_59 : decode cX4_leads 59 = .ok (.iload_n 2, 1) := by decide +kernel
theorem dX4_leads_60 : decode cX4_leads 60 = .ok (.bipush (-9), 2) := by decide +kernel
theorem dX4_leads_62 : decode cX4_leads 62 = .ok (.if_icmp .eq 28, 3) := by decide +kernel
theorem dX4_leads_65 : decode cX4_leads 65 = .ok (.aload_n 0, 1) := by decide +kernel
theorem dX4_leads_66 : decode cX4_leads 66 = .ok (.getfield 16, 3) := by decide +kernel
theorem dX4_leads_69 : decode cX4_leads 69 = .ok (.getfield 139, 3) := by decide +kernel
theorem dX4_leads_72 : decode cX4_leads 72 = .ok (.iload_n 3, 1) := by decide +kernel
theorem dX4_leads_73 : decode cX4_leads 73 = .ok (.invokevirtual 105, 3) := by decide +kernel
theorem dX4_leads_76 : decode cX4_leads 76 = .ok (.aload_n 0, 1) := by decide +kernel
theorem dX4_leads_77 : decode cX4_leads 77 = .ok (.getfield 16, 3) := by decide +kernel
theorem dX4_leads_80 : decode cX4_leads 80 = .ok (.getfield 139, 3) := by decide +kernel
theorem dX4_leads_83 : decode cX4_leads 83 = .ok (.iload_n 2, 1) := by decide +kernel
theorem dX4_leads_84 : decode cX4_leads 84 = .ok (.invokevirtual 105, 3) := by decide +kernel
theorem dX4_leads_87 : decode cX4_leads 87 = .ok (.if_icmp .le 5, 3) := by decide +kernel
theorem dX4_leads_90 : decode cX4_leads 90 = .ok (.iload_n 3, 1) := by decide +kernel
theorem dX4_leads_91 : decode cX4_leads 91 = .ok (.istore_n 2, 1) := by decide +kernel
theorem dX4_leads_92 : decode cX4_leads 92 = .ok (.iinc 3 1, 3) := by decide +kernel
theorem dX4_leads_95 : decode cX4_leads 95 = .ok (.goto (-47), 3) := by decide +kernel
theorem dX4_leads_98 : decode cX4_leads 98 = .ok (.iload_n 2, 1) := by decide +kernel
theorem dX4_leads_99 : decode cX4_leads 99 = .ok (.ireturn, 1) := by decide +kernel
theorem dX4_worth_0 : decode cX4_worth 0 = .ok (.aload_n 0, 1) := by decide +kernel
theorem dX4_worth_1 : decode cX4_worth 1 = .ok (.getfield 10, 3) := by decide +kernel
theorem dX4_worth_4 : decode cX4_worth 4 = .ok (.invokevirtual 198, 3) := by decide +kernel
theorem dX4_worth_7 : decode cX4_worth 7 = .ok (.ireturn, 1) := by decide +kernel
theorem dX4_well_0 : decode cX4_well 0 = .ok (.iconst 0, 1) := by decide +kernel
theorem dX4_well_1 : decode cX4_well 1 = .ok (.istore_n 1, 1) := by decide +kernel
theorem dX4_well_2 : decode cX4_well 2 = .ok (.iconst 0, 1) := by decide +kernel
theorem dX4_well_3 : decode cX4_well 3 = .ok (.istore_n 2, 1) := by decide +kernel
theorem dX4_well_4 : decode cX4_well 4 = .ok (.iload_n 2, 1) := by decide +kernel
theorem dX4_well_5 : decode cX4_well 5 = .ok (.aload_n 0, 1) := by decide +kernel
theorem dX4_well_6 : decode cX4_well 6 = .ok (.getfield 10, 3) := by decide +kernel
theorem dX4_well_9 : decode cX4_well 9 = .ok (.getfield 108, 3) := by decide +kernel
theorem dX4_well_12 : decode cX4_well 12 = .ok (.if_icmp .ge 27, 3) := by decide +kernel
theorem dX4_well_15 : decode cX4_well 15 = .ok (.aload_n 0, 1) := by decide +kernel
theorem dX4_well_16 : decode cX4_well 16 = .ok (.getfield 10, 3) := by decide +kernel
theorem dX4_well_19 : decode cX4_well 19 = .ok (.iload_n 2, 1) := by decide +kernel
theorem dX4_well_20 : decode cX4_well 20 = .ok (.invokevirtual 176, 3) := by decide +kernel
theorem dX4_well_23 : decode cX4_well 23 = .ok (.iconst 5, 1) := by decide +kernel
theorem dX4_well_24 : decode cX4_well 24 = .ok (.if_icmp .lt 9, 3) := by decide +kernel
theorem dX4_well_27 : decode cX4_well 27 = .ok (.iload_n 1, 1) := by decide +kernel
theorem dX4_well_28 : decode cX4_well 28 = .ok (.iconst 1, 1) := by decide +kernel
theorem dX4_well_29 : decode cX4_well 29 = .ok (.iload_n 2, 1) := by decide +kernel
theorem dX4_well_30 : decode cX4_well 30 = .ok (.ishl, 1) := by decide +kernel
theorem dX4_well_31 : decode cX4_well 31 = .ok (.ior, 1) := by decide +kernel
theorem dX4_well_32 : decode cX4_well 32 = .ok (.istore_n 1, 1) := by decide +kernel
theorem dX4_well_33 : decode cX4_well 33 = .ok (.iinc 2 1, 3) := by decide +kernel
theorem dX4_well_36 : decode cX4_well 36 = .ok (.goto (-32), 3) := by decide +kernel
theorem dX4_well_39 : decode cX4_well 39 = .ok (.iload_n 1, 1) := by decide +kernel
theorem dX4_well_40 : decode cX4_well 40 = .ok (.ireturn, 1) := by decide +kernel
theorem dX4_read_0 : decode cX4_read 0 = .ok (.iload_n 1, 1) := by decide +kernel
theorem dX4_read_1 : decode cX4_read 1 = .ok (.ifCond .eq 15, 3) := by decide +kernel
theorem dX4_read_4 : decode cX4_read 4 = .ok (.iload_n 1, 1) := by decide +kernel
theorem dX4_read_5 : decode cX4_read 5 = .ok (.iconst 1, 1) := by decide +kernel
theorem dX4_read_6 : decode cX4_read 6 = .ok (.if_icmp .eq 10, 3) := by decide +kernel
theorem dX4_read_9 : decode cX4_read 9 = .ok (.aload_n 0, 1) := by decide +kernel
theorem dX4_read_10 : decode cX4_read 10 = .ok (.bipush (-2), 2) := by decide +kernel
theorem dX4_read_12 : decode cX4_read 12 = .ok (.invokevirtual 58, 3) := by decide +kernel
theorem dX4_read_15 : decode cX4_read 15 = .ok (.ireturn, 1) := by decide +kernel
theorem dX4_read_16 : decode cX4_read 16 = .ok (.iload_n 1, 1) := by decide +kernel
theorem dX4_read_17 : decode cX4_read 17 = .ok (.ifCond .ne 10, 3) := by decide +kernel
theorem dX4_read_20 : decode cX4_read 20 = .ok (.aload_n 0, 1) := by decide +kernel
theorem dX4_read_21 : decode cX4_read 21 = .ok (.invokevirtual 201, 3) := by decide +kernel
theorem dX4_read_24 : decode cX4_read 24 = .ok (.goto 7, 3) := by decide +kernel
theorem dX4_read_27 : decode cX4_read 27 = .ok (.aload_n 0, 1) := by decide +kernel
theorem dX4_read_28 : decode cX4_read 28 = .ok (.invokevirtual 204, 3) := by decide +kernel
theorem dX4_read_31 : decode cX4_read 31 = .ok (.ireturn, 1) := by decide +kernel
theorem dX4_bestRead_0 : decode cX4_bestRead 0 = .ok (.bipush (-9), 2) := by decide +kernel
theorem dX4_bestRead_2 : decode cX4_bestRead 2 = .ok (.istore_n 1, 1) := by decide +kernel
theorem dX4_bestRead_3 : decode cX4_bestRead 3 = .ok (.iconst 0, 1) := by decide +kernel
theorem dX4_bestRead_4 : decode cX4_bestRead 4 = .ok (.istore_n 2, 1) := by decide +kernel
theorem dX4_bestRead_5 : decode cX4_bestRead 5 = .ok (.iload_n 2, 1) := by decide +kernel
theorem dX4_bestRead_6 : decode cX4_bestRead 6 = .ok (.aload_n 0, 1) := by decide +kernel
theorem dX4_bestRead_7 : decode cX4_bestRead 7 = .ok (.getfield 10, 3) := by decide +kernel
theorem dX4_bestRead_10 : decode cX4_bestRead 10 = .ok (.getfield 108, 3) := by decide +kernel
theorem dX4_bestRead_13 : decode cX4_bestRead 13 = .ok (.if_icmp .ge 47, 3) := by decide +kernel
theorem dX4_bestRead_16 : decode cX4_bestRead 16 = .ok (.aload_n 0, 1) := by decide +kernel
theorem dX4_bestRead_17 : decode cX4_bestRead 17 = .ok (.getfield 10, 3) := by decide +kernel
theorem dX4_bestRead_20 : decode cX4_bestRead 20 = .ok (.iload_n 2, 1) := by decide +kernel
theorem dX4_bestRead_21 : decode cX4_bestRead 21 = .ok (.invokevirtual 207, 3) := by decide +kernel
theorem dX4_bestRead_24 : decode cX4_bestRead 24 = .ok (.ifCond .eq 30, 3) := by decide +kernel
theorem dX4_bestRead_27 : decode cX4_bestRead 27 = .ok (.iload_n 1, 1) := by decide +kernel
theorem dX4_bestRead_28 : decode cX4_bestRead 28 = .ok (.bipush (-9), 2) := by decide +kernel
theorem dX4_bestRead_30 : decode cX4_bestRead 30 = .ok (.if_icmp .eq 22, 3) := by decide +kernel
theorem dX4_bestRead_33 : decode cX4_bestRead 33 = .ok (.aload_n 0, 1) := by decide +kernel
theorem dX4_bestRead_34 : decode cX4_bestRead 34 = .ok (.getfield 10, 3) := by decide +kernel
theorem dX4_bestRead_37 : decode cX4_bestRead 37 = .ok (.iload_n 2, 1) := by decide +kernel
theorem dX4_bestRead_38 : decode cX4_bestRead 38 = .ok (.invokevirtual 176, 3) := by decide +kernel
theorem dX4_bestRead_41 : decode cX4_bestRead 41 = .ok (.aload_n 0, 1) := by decide +kernel
theorem dX4_bestRead_42 : decode cX4_bestRead 42 = .ok (.getfield 10, 3) := by decide +kernel
theorem dX4_bestRead_45 : decode cX4_bestRead 45 = .ok (.iload_n 1, 1) := by decide +kernel
theorem dX4_bestRead_46 : decode cX4_bestRead 46 = .ok (.invokevirtual 176, 3) := by decide +kernel
theorem dX4_bestRead_49 : decode cX4_bestRead 49 = .ok (.if_icmp .le 5, 3) := by decide +kernel
theorem dX4_bestRead_52 : decode cX4_bestRead 52 = .ok (.iload_n 2, 1) := by decide +kernel
theorem dX4_bestRead_53 : decode cX4_bestRead 53 = .ok (.istore_n 1, 1) := by decide +kernel
theorem dX4_bestRead_54 : decode cX4_bestRead 54 = .ok (.iinc 2 1, 3) := by decide +kernel
theorem dX4_bestRead_57 : decode cX4_bestRead 57 = .ok (.goto (-52), 3) := by decide +kernel
theorem dX4_bestRead_60 : decode cX4_bestRead 60 = .ok (.iload_n 1, 1) := by decide +kernel
theorem dX4_bestRead_61 : decode cX4_bestRead 61 = .ok (.ireturn, 1) := by decide +kernel
theorem dX4_worstRead_0 : decode cX4_worstRead 0 = .ok (.bipush (-9), 2) := by decide +kernel
theorem dX4_worstRead_2 : decode cX4_worstRead 2 = .ok (.istore_n 1, 1) := by decide +kernel
theorem dX4_worstRead_3 : decode cX4_worstRead 3 = .ok (.iconst 0, 1) := by decide +kernel
theorem dX4_worstRead_4 : decode cX4_worstRead 4 = .ok (.istore_n 2, 1) := by decide +kernel
theorem dX4_worstRead_5 : decode cX4_worstRead 5 = .ok (.iload_n 2, 1) := by decide +kernel
theorem dX4_worstRead_6 : decode cX4_worstRead 6 = .ok (.aload_n 0, 1) := by decide +kernel
theorem dX4_worstRead_7 : decode cX4_worstRead 7 = .ok (.getfield 10, 3) := by decide +kernel
theorem dX4_worstRead_10 : decode cX4_worstRead 10 = .ok (.getfield 108, 3) := by decide +kernel
theorem dX4_worstRead_13 : decode cX4_worstRead 13 = .ok (.if_icmp .ge 47, 3) := by decide +kernel
theorem dX4_worstRead_16 : decode cX4_worstRead 16 = .ok (.aload_n 0, 1) := by decide +kernel
theorem dX4_worstRead_17 : decode cX4_worstRead 17 = .ok (.getfield 10, 3) := by decide +kernel
theorem dX4_worstRead_20 : decode cX4_worstRead 20 = .ok (.iload_n 2, 1) := by decide +kernel
theorem dX4_worstRead_21 : decode cX4_worstRead 21 = .ok (.invokevirtual 207, 3) := by decide +kernel
theorem dX4_worstRead_24 : decode cX4_worstRead 24 = .ok (.ifCond .eq 30, 3) := by decide +kernel
theorem dX4_worstRead_27 : decode cX4_worstRead 27 = .ok (.iload_n 1, 1) := by decide +kernel
theorem dX4_worstRead_28 : decode cX4_worstRead 28 = .ok (.bipush (-9), 2) := by decide +kernel
theorem dX4_worstRead_30 : decode cX4_worstRead 30 = .ok (.if_icmp .eq 22, 3) := by decide +kernel
theorem dX4_worstRead_33 : decode cX4_worstRead 33 = .ok (.aload_n 0, 1) := by decide +kernel
theorem dX4_worstRead_34 : decode cX4_worstRead 34 = .ok (.getfield 10, 3) := by decide +kernel
theorem dX4_worstRead_37 : decode cX4_worstRead 37 = .ok (.iload_n 2, 1) := by decide +kernel
theorem dX4_worstRead_38 : decode cX4_worstRead 38 = .ok (.invokevirtual 176, 3) := by decide +kernel
theorem dX4_worstRead_41 : decode cX4_worstRead 41 = .ok (.aload_n 0, 1) := by decide +kernel
theorem dX4_worstRead_42 : decode cX4_worstRead 42 = .ok (.getfield 10, 3) := by decide +kernel
theorem dX4_worstRead_45 : decode cX4_worstRead 45 = .ok (.iload_n 1, 1) := by decide +kernel
theorem dX4_worstRead_46 : decode cX4_worstRead 46 = .ok (.invokevirtual 176, 3) := by decide +kernel
theorem dX4_worstRead_49 : decode cX4_worstRead 49 = .ok (.if_icmp .ge 5, 3) := by decide +kernel
theorem dX4_worstRead_52 : decode cX4_worstRead 52 = .ok (.iload_n 2, 1) := by decide +kernel
theorem dX4_worstRead_53 : decode cX4_worstRead 53 = .ok (.istore_n 1, 1) := by decide +kernel
theorem dX4_worstRead_54 : decode cX4_worstRead 54 = .ok (.iinc 2 1, 3) := by decide +kernel
theorem dX4_worstRead_57 : decode cX4_worstRead 57 = .ok (.goto (-52), 3) := by decide +kernel
theorem dX4_worstRead_60 : decode cX4_worstRead 60 = .ok (.iload_n 1, 1) := by decide +kernel
theorem dX4_worstRead_61 : decode cX4_worstRead 61 = .ok (.ireturn, 1) := by decide +kernel
theorem dX4_mutual_0 : decode cX4_mutual 0 = .ok (.iconst 0, 1) := by decide +kernel
theorem dX4_mutual_1 : decode cX4_mutual 1 = .ok (.istore_n 1, 1) := by decide +kernel
theorem dX4_mutual_2 : decode cX4_mutual 2 = .ok (.iconst 0, 1) := by decide +kernel
theorem dX4_mutual_3 : decode cX4_mutual 3 = .ok (.istore_n 2, 1) := by decide +kernel
theorem dX4_mutual_4 : decode cX4_mutual 4 = .ok (.iload_n 2, 1) := by decide +kernel
theorem dX4_mutual_5 : decode cX4_mutual 5 = .ok (.aload_n 0, 1) := by decide +kernel
theorem dX4_mutual_6 : decode cX4_mutual 6 = .ok (.getfield 10, 3) := by decide +kernel
theorem dX4_mutual_9 : decode cX4_mutual 9 = .ok (.getfield 108, 3) := by decide +kernel
theorem dX4_mutual_12 : decode cX4_mutual 12 = .ok (.if_icmp .ge 44, 3) := by decide +kernel
theorem dX4_mutual_15 : decode cX4_mutual 15 = .ok (.aload_n 0, 1) := by decide +kernel
theorem dX4_mutual_16 : decode cX4_mutual 16 = .ok (.getfield 10, 3) := by decide +kernel
theorem dX4_mutual_19 : decode cX4_mutual 19 = .ok (.getfield 157, 3) := by decide +kernel
theorem dX4_mutual_22 : decode cX4_mutual 22 = .ok (.iload_n 2, 1) := by decide +kernel
theorem dX4_mutual_23 : decode cX4_mutual 23 = .ok (.invokevirtual 105, 3) := by decide +kernel
theorem dX4_mutual_26 : decode cX4_mutual 26 = .ok (.istore_n 3, 1) := by decide +kernel
theorem dX4_mutual_27 : decode cX4_mutual 27 = .ok (.iload_n 3, 1) := by decide +kernel
theorem dX4_mutual_28 : decode cX4_mutual 28 = .ok (.iload_n 2, 1) := by decide +kernel
theorem dX4_mutual_29 : decode cX4_mutual 29 = .ok (.if_icmp .le 21, 3) := by decide +kernel
theorem dX4_mutual_32 : decode cX4_mutual 32 = .ok (.aload_n 0, 1) := by decide +kernel
theorem dX4_mutual_33 : decode cX4_mutual 33 = .ok (.getfield 10, 3) := by decide +kernel
theorem dX4_mutual_36 : decode cX4_mutual 36 = .ok (.getfield 157, 3) := by decide +kernel
theorem dX4_mutual_39 : decode cX4_mutual 39 = .ok (.iload_n 3, 1) := by decide +kernel
theorem dX4_mutual_40 : decode cX4_mutual 40 = .ok (.invokevirtual 105, 3) := by decide +kernel
theorem dX4_mutual_43 : decode cX4_mutual 43 = .ok (.iload_n 2, 1) := by decide +kernel
theorem dX4_mutual_44 : decode cX4_mutual 44 = .ok (.if_icmp .ne 6, 3) := by decide +kernel
theorem dX4_mutual_47 : decode cX4_mutual 47 = .ok (.iinc 1 1, 3) := by decide +kernel
theorem dX4_mutual_50 : decode cX4_mutual 50 = .ok (.iinc 2 1, 3) := by decide +kernel
theorem dX4_mutual_53 : decode cX4_mutual 53 = .ok (.goto (-49), 3) := by decide +kernel
theorem dX4_mutual_56 : decode cX4_mutual 56 = .ok (.iload_n 1, 1) := by decide +kernel
theorem dX4_mutual_57 : decode cX4_mutual 57 = .ok (.ireturn, 1) := by decide +kernel
theorem dX4_chain_0 : decode cX4_chain 0 = .ok (.aload_n 0, 1) := by decide +kernel
theorem dX4_chain_1 : decode cX4_chain 1 = .ok (.getfield 10, 3) := by decide +kernel
theorem dX4_chain_4 : decode cX4_chain 4 = .ok (.iload_n 1, 1) := by decide +kernel
theorem dX4_chain_5 : decode cX4_chain 5 = .ok (.invokevirtual 116, 3) := by decide +kernel
theorem dX4_chain_8 : decode cX4_chain 8 = .ok (.ifCond .ne 9, 3) := by decide +kernel
theorem dX4_chain_11 : decode cX4_chain 11 = .ok (.aload_n 0, 1) := by decide +kernel
theorem dX4_chain_12 : decode cX4_chain 12 = .ok (.iconst (-1), 1) := by decide +kernel
theorem dX4_chain_13 : decode cX4_chain 13 = .ok (.invokevirtual 58, 3) := by decide +kernel
theorem dX4_chain_16 : decode cX4_chain 16 = .ok (.ireturn, 1) := by decide +kernel
theorem dX4_chain_17 : decode cX4_chain 17 = .ok (.aload_n 0, 1) := by decide +kernel
theorem dX4_chain_18 : decode cX4_chain 18 = .ok (.getfield 10, 3) := by decide +kernel
theorem dX4_chain_21 : decode cX4_chain 21 = .ok (.iload_n 1, 1) := by decide +kernel
theorem dX4_chain_22 : decode cX4_chain 22 = .ok (.invokevirtual 207, 3) := by decide +kernel
theorem dX4_chain_25 : decode cX4_chain 25 = .ok (.ifCond .ne 5, 3) := by decide +kernel
theorem dX4_chain_28 : decode cX4_chain 28 = .ok (.iconst 0, 1) := by decide +kernel
theorem dX4_chain_29 : decode cX4_chain 29 = .ok (.ireturn, 1) := by decide +kernel
theorem dX4_chain_30 : decode cX4_chain 30 = .ok (.iconst 0, 1) := by decide +kernel
theorem dX4_chain_31 : decode cX4_chain 31 = .ok (.istore_n 2, 1) := by decide +kernel
theorem dX4_chain_32 : decode cX4_chain 32 = .ok (.iload_n 1, 1) := by decide +kernel
theorem dX4_chain_33 : decode cX4_chain 33 = .ok (.istore_n 3, 1) := by decide +kernel
theorem dX4_chain_34 : decode cX4_chain 34 = .ok (.iconst 0, 1) := by decide +kernel
theorem dX4_chain_35 : decode cX4_chain 35 = .ok (.istore 4, 2) := by decide +kernel
theorem dX4_chain_37 : decode cX4_chain 37 = .ok (.iload 4, 2) := by decide +kernel
theorem dX4_chain_39 : decode cX4_chain 39 = .ok (.bipush 7, 2) := by decide +kernel
theorem dX4_chain_41 : decode cX4_chain 41 = .ok (.if_icmp .ge 39, 3) := by decide +kernel
theorem dX4_chain_44 : decode cX4_chain 44 = .ok (.iload_n 3, 1) := by decide +kernel
theorem dX4_chain_45 : decode cX4_chain 45 = .ok (.ifCond .lt 35, 3) := by decide +kernel
theorem dX4_chain_48 : decode cX4_chain 48 = .ok (.iload_n 2, 1) := by decide +kernel
theorem dX4_chain_49 : decode cX4_chain 49 = .ok (.iload_n 3, 1) := by decide +kernel
theorem dX4_chain_50 : decode cX4_chain 50 = .ok (.ishr, 1) := by decide +kernel
theorem dX4_chain_51 : decode cX4_chain 51 = .ok (.iconst 1, 1) := by decide +kernel
theorem dX4_chain_52 : decode cX4_chain 52 = .ok (.iand, 1) := by decide +kernel
theorem dX4_chain_53 : decode cX4_chain 53 = .ok (.ifCond .ne 27, 3) := by decide +kernel
theorem dX4_chain_56 : decode cX4_chain 56 = .ok (.iload_n 2, 1) := by decide +kernel
theorem dX4_chain_57 : decode cX4_chain 57 = .ok (.iconst 1, 1) := by decide +kernel
theorem dX4_chain_58 : decode cX4_chain 58 = .ok (.iload_n 3, 1) := by decide +kernel
theorem dX4_chain_59 : decode cX4_chain 59 = .ok (.ishl, 1) := by decide +kernel
theorem dX4_chain_60 : decode cX4_chain 60 = .ok (.ior, 1) := by decide +kernel
theorem dX4_chain_61 : decode cX4_chain 61 = .ok (.istore_n 2, 1) := by decide +kernel
theorem dX4_chain_62 : decode cX4_chain 62 = .ok (.aload_n 0, 1) := by decide +kernel
theorem dX4_chain_63 : decode cX4_chain 63 = .ok (.getfield 10, 3) := by decide +kernel
theorem dX4_chain_66 : decode cX4_chain 66 = .ok (.getfield 157, 3) := by decide +kernel
theorem dX4_chain_69 : decode cX4_chain 69 = .ok (.iload_n 3, 1) := by decide +kernel
theorem dX4_chain_70 : decode cX4_chain 70 = .ok (.invokevirtual 105, 3) := by decide +kernel
theorem dX4_chain_73 : decode cX4_chain 73 = .ok (.istore_n 3, 1) := by decide +kernel
theorem dX4_chain_74 : decode cX4_chain 74 = .ok (.iinc 4 1, 3) := by decide +kernel
theorem dX4_chain_77 : decode cX4_chain 77 = .ok (.goto (-40), 3) := by decide +kernel
theorem dX4_chain_80 : decode cX4_chain 80 = .ok (.iload_n 2, 1) := by decide +kernel
theorem dX4_chain_81 : decode cX4_chain 81 = .ok (.invokestatic 210, 3) := by decide +kernel
theorem dX4_chain_84 : decode cX4_chain 84 = .ok (.ireturn, 1) := by decide +kernel
theorem dX4_same_0 : decode cX4_same 0 = .ok (.iload_n 1, 1) := by decide +kernel
theorem dX4_same_1 : decode cX4_same 1 = .ok (.ifCond .eq 15, 3) := by decide +kernel
theorem dX4_same_4 : decode cX4_same 4 = .ok (.iload_n 1, 1) := by decide +kernel
theorem dX4_same_5 : decode cX4_same 5 = .ok (.iconst 1, 1) := by decide +kernel
theorem dX4_same_6 : decode cX4_same 6 = .ok (.if_icmp .eq 10, 3) := by decide +kernel
theorem dX4_same_9 : decode cX4_same 9 = .ok (.aload_n 0, 1) := by decide +kernel
theorem dX4_same_10 : decode cX4_same 10 = .ok (.bipush (-2), 2) := by decide +kernel
theorem dX4_same_12 : decode cX4_same 12 = .ok (.invokevirtual 58, 3) := by decide +kernel
theorem dX4_same_15 : decode cX4_same 15 = .ok (.ireturn, 1) := by decide +kernel
theorem dX4_same_16 : decode cX4_same 16 = .ok (.iconst 0, 1) := by decide +kernel
theorem dX4_same_17 : decode cX4_same 17 = .ok (.istore_n 2, 1) := by decide +kernel
theorem dX4_same_18 : decode cX4_same 18 = .ok (.bipush (-9), 2) := by decide +kernel
theorem dX4_same_20 : decode cX4_same 20 = .ok (.istore_n 3, 1) := by decide +kernel
theorem dX4_same_21 : decode cX4_same 21 = .ok (.iconst 0, 1) := by decide +kernel
theorem dX4_same_22 : decode cX4_same 22 = .ok (.istore 4, 2) := by decide +kernel
theorem dX4_same_24 : decode cX4_same 24 = .ok (.iload 4, 2) := by decide +kernel
theorem dX4_same_26 : decode cX4_same 26 = .ok (.aload_n 0, 1) := by decide +kernel
theorem dX4_same_27 : decode cX4_same 27 = .ok (.getfield 10, 3) := by decide +kernel
theorem dX4_same_30 : decode cX4_same 30 = .ok (.getfield 108, 3) := by decide +kernel
theorem dX4_same_33 : decode cX4_same 33 = .ok (.if_icmp .ge 69, 3) := by decide +kernel
theorem dX4_same_36 : decode cX4_same 36 = .ok (.iload 4, 2) := by decide +kernel
theorem dX4_same_38 : decode cX4_same 38 = .ok (.iconst 1, 1) := by decide +kernel
theorem dX4_same_39 : decode cX4_same 39 = .ok (.iadd, 1) := by decide +kernel
theorem dX4_same_40 : decode cX4_same 40 = .ok (.istore 5, 2) := by decide +kernel
theorem dX4_same_42 : decode cX4_same 42 = .ok (.iload 5, 2) := by decide +kernel
theorem dX4_same_44 : decode cX4_same 44 = .ok (.aload_n 0, 1) := by decide +kernel
theorem dX4_same_45 : decode cX4_same 45 = .ok (.getfield 10, 3) := by decide +kernel
theorem dX4_same_48 : decode cX4_same 48 = .ok (.getfield 108, 3) := by decide +kernel
theorem dX4_same_51 : decode cX4_same 51 = .ok (.if_icmp .ge 45, 3) := by decide +kernel
theorem dX4_same_54 : decode cX4_same 54 = .ok (.aload_n 0, 1) := by decide +kernel
theorem dX4_same_55 : decode cX4_same 55 = .ok (.getfield 10, 3) := by decide +kernel
theorem dX4_same_58 : decode cX4_same 58 = .ok (.iload 4, 2) := by decide +kernel
theorem dX4_same_60 : decode cX4_same 60 = .ok (.iload 5, 2) := by decide +kernel
theorem dX4_same_62 : decode cX4_same 62 = .ok (.invokevirtual 215, 3) := by decide +kernel
theorem dX4_same_65 : decode cX4_same 65 = .ok (.ifCond .eq 25, 3) := by decide +kernel
theorem dX4_same_68 : decode cX4_same 68 = .ok (.iinc 2 1, 3) := by decide +kernel
theorem dX4_same_71 : decode cX4_same 71 = .ok (.iload_n 3, 1) := by decide +kernel
theorem dX4_same_72 : decode cX4_same 72 = .ok (.bipush (-9), 2) := by decide +kernel
theorem dX4_same_74 : decode cX4_same 74 = .ok (.if_icmp .ne 14, 3) := by decide +kernel
theorem dX4_same_77 : decode cX4_same 77 = .ok (.bipush 10, 2) := by decide +kernel
theorem dX4_same_79 : decode cX4_same 79 = .ok (.iload 4, 2) := by decide +kernel
theorem dX4_same_81 : decode cX4_same 81 = .ok (.imul, 1) := by decide +kernel
theorem dX4_same_82 : decode cX4_same 82 = .ok (.iload 5, 2) := by decide +kernel
theorem dX4_same_84 : decode cX4_same 84 = .ok (.iadd, 1) := by decide +kernel
theorem dX4_same_85 : decode cX4_same 85 = .ok (.goto 4, 3) := by decide +kernel
theorem dX4_same_88 : decode cX4_same 88 = .ok (.iload_n 3, 1) := by decide +kernel
theorem dX4_same_89 : decode cX4_same 89 = .ok (.istore_n 3, 1) := by decide +kernel
theorem dX4_same_90 : decode cX4_same 90 = .ok (.iinc 5 1, 3) := by decide +kernel
theorem dX4_same_93 : decode cX4_same 93 = .ok (.goto (-51), 3) := by decide +kernel
theorem dX4_same_96 : decode cX4_same 96 = .ok (.iinc 4 1, 3) := by decide +kernel
theorem dX4_same_99 : decode cX4_same 99 = .ok (.goto (-75), 3) := by decide +kernel
theorem dX4_same_102 : decode cX4_same 102 = .ok (.iload_n 1, 1) := by decide +kernel
theorem dX4_same_103 : decode cX4_same 103 = .ok (.ifCond .ne 7, 3) := by decide +kernel
theorem dX4_same_106 : decode cX4_same 106 = .ok (.iload_n 2, 1) := by decide +kernel
theorem dX4_same_107 : decode cX4_same 107 = .ok (.goto 4, 3) := by decide +kernel
theorem dX4_same_110 : decode cX4_same 110 = .ok (.iload_n 3, 1) := by decide +kernel
theorem dX4_same_111 : decode cX4_same 111 = .ok (.ireturn, 1) := by decide +kernel
theorem dX4_ending_0 : decode cX4_ending 0 = .ok (.iload_n 1, 1) := by decide +kernel
theorem dX4_ending_1 : decode cX4_ending 1 = .ok (.ifCond .ge 10, 3) := by decide +kernel
theorem dX4_ending_4 : decode cX4_ending 4 = .ok (.aload_n 0, 1) := by decide +kernel
theorem dX4_ending_5 : decode cX4_ending 5 = .ok (.bipush (-4), 2) := by decide +kernel
theorem dX4_ending_7 : decode cX4_ending 7 = .ok (.invokevirtual 58, 3) := by decide +kernel
theorem dX4_ending_10 : decode cX4_ending 10 = .ok (.ireturn, 1) := by decide +kernel
theorem dX4_ending_11 : decode cX4_ending 11 = .ok (.iload_n 1, 1) := by decide +kernel
theorem dX4_ending_12 : decode cX4_ending 12 = .ok (.bipush 10, 2) := by decide +kernel
theorem dX4_ending_14 : decode cX4_ending 14 = .ok (.if_icmp .lt 10, 3) := by decide +kernel
theorem dX4_ending_17 : decode cX4_ending 17 = .ok (.aload_n 0, 1) := by decide +kernel
theorem dX4_ending_18 : decode cX4_ending 18 = .ok (.bipush (-6), 2) := by decide +kernel
theorem dX4_ending_20 : decode cX4_ending 20 = .ok (.invokevirtual 58, 3) := by decide +kernel
theorem dX4_ending_23 : decode cX4_ending 23 = .ok (.ireturn, 1) := by decide +kernel
theorem dX4_ending_24 : decode cX4_ending 24 = .ok (.iconst 0, 1) := by decide +kernel
theorem dX4_ending_25 : decode cX4_ending 25 = .ok (.istore_n 2, 1) := by decide +kernel
theorem dX4_ending_26 : decode cX4_ending 26 = .ok (.iconst 0, 1) := by decide +kernel
theorem dX4_ending_27 : decode cX4_ending 27 = .ok (.istore_n 3, 1) := by decide +kernel
theorem dX4_ending_28 : decode cX4_ending 28 = .ok (.iload_n 3, 1) := by decide +kernel
theorem dX4_ending_29 : decode cX4_ending 29 = .ok (.aload_n 0, 1) := by decide +kernel
theorem dX4_ending_30 : decode cX4_ending 30 = .ok (.getfield 10, 3) := by decide +kernel
theorem dX4_ending_33 : decode cX4_ending 33 = .ok (.getfield 108, 3) := by decide +kernel
theorem dX4_ending_36 : decode cX4_ending 36 = .ok (.if_icmp .ge 24, 3) := by decide +kernel
theorem dX4_ending_39 : decode cX4_ending 39 = .ok (.aload_n 0, 1) := by decide +kernel
theorem dX4_ending_40 : decode cX4_ending 40 = .ok (.getfield 10, 3) := by decide +kernel
theorem dX4_ending_43 : decode cX4_ending 43 = .ok (.iload_n 3, 1) := by decide +kernel
theorem dX4_ending_44 : decode cX4_ending 44 = .ok (.invokevirtual 173, 3) := by decide +kernel
theorem dX4_ending_47 : decode cX4_ending 47 = .ok (.iload_n 1, 1) := by decide +kernel
theorem dX4_ending_48 : decode cX4_ending 48 = .ok (.if_icmp .ne 6, 3) := by decide +kernel
theorem dX4_ending_51 : decode cX4_ending 51 = .ok (.iinc 2 1, 3) := by decide +kernel
theorem dX4_ending_54 : decode cX4_ending 54 = .ok (.iinc 3 1, 3) := by decide +kernel
theorem dX4_ending_57 : decode cX4_ending 57 = .ok (.goto (-29), 3) := by decide +kernel
theorem dX4_ending_60 : decode cX4_ending 60 = .ok (.iload_n 2, 1) := by decide +kernel
theorem dX4_ending_61 : decode cX4_ending 61 = .ok (.ireturn, 1) := by decide +kernel
theorem dX4_join_0 : decode cX4_join 0 = .ok (.aload_n 0, 1) := by decide +kernel
theorem dX4_join_1 : decode cX4_join 1 = .ok (.invokevirtual 204, 3) := by decide +kernel
theorem dX4_join_4 : decode cX4_join 4 = .ok (.ireturn, 1) := by decide +kernel
theorem dX4_ring_0 : decode cX4_ring 0 = .ok (.iload_n 1, 1) := by decide +kernel
theorem dX4_ring_1 : decode cX4_ring 1 = .ok (.iconst (-1), 1) := by decide +kernel
theorem dX4_ring_2 : decode cX4_ring 2 = .ok (.if_icmp .ge 10, 3) := by decide +kernel
theorem dX4_ring_5 : decode cX4_ring 5 = .ok (.aload_n 0, 1) := by decide +kernel
theorem dX4_ring_6 : decode cX4_ring 6 = .ok (.bipush (-4), 2) := by decide +kernel
theorem dX4_ring_8 : decode cX4_ring 8 = .ok (.invokevirtual 167, 3) := by decide +kernel
theorem dX4_ring_11 : decode cX4_ring 11 = .ok (.ireturn, 1) := by decide +kernel
theorem dX4_ring_12 : decode cX4_ring 12 = .ok (.aload_n 0, 1) := by decide +kernel
theorem dX4_ring_13 : decode cX4_ring 13 = .ok (.getfield 54, 3) := by decide +kernel
theorem dX4_ring_16 : decode cX4_ring 16 = .ok (.aload_n 0, 1) := by decide +kernel
theorem dX4_ring_17 : decode cX4_ring 17 = .ok (.getfield 10, 3) := by decide +kernel
theorem dX4_ring_20 : decode cX4_ring 20 = .ok (.invokevirtual 218, 3) := by decide +kernel
theorem dX4_ring_23 : decode cX4_ring 23 = .ok (.iload_n 1, 1) := by decide +kernel
theorem dX4_ring_24 : decode cX4_ring 24 = .ok (.iconst (-1), 1) := by decide +kernel
theorem dX4_ring_25 : decode cX4_ring 25 = .ok (.if_icmp .ne 11, 3) := by decide +kernel
theorem dX4_ring_28 : decode cX4_ring 28 = .ok (.aload_n 0, 1) := by decide +kernel
theorem dX4_ring_29 : decode cX4_ring 29 = .ok (.getfield 54, 3) := by decide +kernel
theorem dX4_ring_32 : decode cX4_ring 32 = .ok (.getfield 221, 3) := by decide +kernel
theorem dX4_ring_35 : decode cX4_ring 35 = .ok (.ireturn, 1) := by decide +kernel
theorem dX4_ring_36 : decode cX4_ring 36 = .ok (.iload_n 1, 1) := by decide +kernel
theorem dX4_ring_37 : decode cX4_ring 37 = .ok (.aload_n 0, 1) := by decide +kernel
theorem dX4_ring_38 : decode cX4_ring 38 = .ok (.getfield 10, 3) := by decide +kernel
theorem dX4_ring_41 : decode cX4_ring 41 = .ok (.getfield 108, 3) := by decide +kernel
theorem dX4_ring_44 : decode cX4_ring 44 = .ok (.if_icmp .ge 17, 3) := by decide +kernel
theorem dX4_ring_47 : decode cX4_ring 47 = .ok (.aload_n 0, 1) := by decide +kernel
theorem dX4_ring_48 : decode cX4_ring 48 = .ok (.getfield 54, 3) := by decide +kernel
theorem dX4_ring_51 : decode cX4_ring 51 = .ok (.getfield 224, 3) := by decide +kernel
theorem dX4_ring_54 : decode cX4_ring 54 = .ok (.iload_n 1, 1) := by decide +kernel
theorem dX4_ring_55 : decode cX4_ring 55 = .ok (.invokevirtual 105, 3) := by decide +kernel
theorem dX4_ring_58 : decode cX4_ring 58 = .ok (.goto 5, 3) := by decide +kernel
theorem dX4_ring_61 : decode cX4_ring 61 = .ok (.bipush (-9), 2) := by decide +kernel
theorem dX4_ring_63 : decode cX4_ring 63 = .ok (.ireturn, 1) := by decide +kernel
theorem dX4_bribe_0 : decode cX4_bribe 0 = .ok (.aload_n 0, 1) := by decide +kernel
theorem dX4_bribe_1 : decode cX4_bribe 1 = .ok (.getfield 16, 3) := by decide +kernel
theorem dX4_bribe_4 : decode cX4_bribe 4 = .ok (.aload_n 0, 1) := by decide +kernel
theorem dX4_bribe_5 : decode cX4_bribe 5 = .ok (.getfield 10, 3) := by decide +kernel
theorem dX4_bribe_8 : decode cX4_bribe 8 = .ok (.invokevirtual 82, 3) := by decide +kernel
theorem dX4_bribe_11 : decode cX4_bribe 11 = .ok (.aload_n 0, 1) := by decide +kernel
theorem dX4_bribe_12 : decode cX4_bribe 12 = .ok (.getfield 10, 3) := by decide +kernel
theorem dX4_bribe_15 : decode cX4_bribe 15 = .ok (.invokevirtual 198, 3) := by decide +kernel
theorem dX4_bribe_18 : decode cX4_bribe 18 = .ok (.istore_n 1, 1) := by decide +kernel
theorem dX4_bribe_19 : decode cX4_bribe 19 = .ok (.bipush (-9), 2) := by decide +kernel
theorem dX4_bribe_21 : decode cX4_bribe 21 = .ok (.istore_n 2, 1) := by decide +kernel
theorem dX4_bribe_22 : decode cX4_bribe 22 = .ok (.iconst 0, 1) := by decide +kernel
theorem dX4_bribe_23 : decode cX4_bribe 23 = .ok (.istore_n 3, 1) := by decide +kernel
theorem dX4_bribe_24 : decode cX4_bribe 24 = .ok (.iload_n 3, 1) := by decide +kernel
theorem dX4_bribe_25 : decode cX4_bribe 25 = .ok (.aload_n 0, 1) := by decide +kernel
theorem dX4_bribe_26 : decode cX4_bribe 26 = .ok (.getfield 10, 3) := by decide +kernel
theorem dX4_bribe_29 : decode cX4_bribe 29 = .ok (.getfield 108, 3) := by decide +kernel
theorem dX4_bribe_32 : decode cX4_bribe 32 = .ok (.if_icmp .ge 78, 3) := by decide +kernel
theorem dX4_bribe_35 : decode cX4_bribe 35 = .ok (.iload_n 3, 1) := by decide +kernel
theorem dX4_bribe_36 : decode cX4_bribe 36 = .ok (.iconst 1, 1) := by decide +kernel
theorem dX4_bribe_37 : decode cX4_bribe 37 = .ok (.iadd, 1) := by decide +kernel
theorem dX4_bribe_38 : decode cX4_bribe 38 = .ok (.istore 4, 2) := by decide +kernel
theorem dX4_bribe_40 : decode cX4_bribe 40 = .ok (.iload 4, 2) := by decide +kernel
theorem dX4_bribe_42 : decode cX4_bribe 42 = .ok (.aload_n 0, 1) := by decide +kernel
theorem dX4_bribe_43 : decode cX4_bribe 43 = .ok (.getfield 10, 3) := by decide +kernel
theorem dX4_bribe_46 : decode cX4_bribe 46 = .ok (.getfield 108, 3) := by decide +kernel
theorem dX4_bribe_49 : decode cX4_bribe 49 = .ok (.if_icmp .ge 55, 3) := by decide +kernel
theorem dX4_bribe_52 : decode cX4_bribe 52 = .ok (.aload_n 0, 1) := by decide +kernel
theorem dX4_bribe_53 : decode cX4_bribe 53 = .ok (.getfield 16, 3) := by decide +kernel
theorem dX4_bribe_56 : decode cX4_bribe 56 = .ok (.iload_n 3, 1) := by decide +kernel
theorem dX4_bribe_57 : decode cX4_bribe 57 = .ok (.iload 4, 2) := by decide +kernel
theorem dX4_bribe_59 : decode cX4_bribe 59 = .ok (.invokevirtual 126, 3) := by decide +kernel
theorem dX4_bribe_62 : decode cX4_bribe 62 = .ok (.aload_n 0, 1) := by decide +kernel
theorem dX4_bribe_63 : decode cX4_bribe 63 = .ok (.getfield 16, 3) := by decide +kernel
theorem dX4_bribe_66 : decode cX4_bribe 66 = .ok (.invokevirtual 198, 3) := by decide +kernel
theorem dX4_bribe_69 : decode cX4_bribe 69 = .ok (.istore 5, 2) := by decide +kernel
theorem dX4_bribe_71 : decode cX4_bribe 71 = .ok (.aload_n 0, 1) := by decide +kernel
theorem dX4_bribe_72 : decode cX4_bribe 72 = .ok (.getfield 16, 3) := by decide +kernel
theorem dX4_bribe_75 : decode cX4_bribe 75 = .ok (.iload_n 3, 1) := by decide +kernel
theorem dX4_bribe_76 : decode cX4_bribe 76 = .ok (.iload 4, 2) := by decide +kernel
theorem dX4_bribe_78 : decode cX4_bribe 78 = .ok (.invokevirtual 126, 3) := by decide +kernel
theorem dX4_bribe_81 : decode cX4_bribe 81 = .ok (.iload 5, 2) := by decide +kernel
theorem dX4_bribe_83 : decode cX4_bribe 83 = .ok (.iload_n 1, 1) := by decide +kernel
theorem dX4_bribe_84 : decode cX4_bribe 84 = .ok (.if_icmp .le 14, 3) := by decide +kernel
theorem dX4_bribe_87 : decode cX4_bribe 87 = .ok (.iload 5, 2) := by decide +kernel
theorem dX4_bribe_89 : decode cX4_bribe 89 = .ok (.istore_n 1, 1) := by decide +kernel
theorem dX4_bribe_90 : decode cX4_bribe 90 = .ok (.bipush 10, 2) := by decide +kernel
theorem dX4_bribe_92 : decode cX4_bribe 92 = .ok (.iload_n 3, 1) := by decide +kernel
theorem dX4_bribe_93 : decode cX4_bribe 93 = .ok (.imul, 1) := by decide +kernel
theorem dX4_bribe_94 : decode cX4_bribe 94 = .ok (.iload 4, 2) := by decide +kernel
theorem dX4_bribe_96 : decode cX4_bribe 96 = .ok (.iadd, 1) := by decide +kernel
theorem dX4_bribe_97 : decode cX4_bribe 97 = .ok (.istore_n 2, 1) := by decide +kernel
theorem dX4_bribe_98 : decode cX4_bribe 98 = .ok (.iinc 4 1, 3) := by decide +kernel
theorem dX4_bribe_101 : decode cX4_bribe 101 = .ok (.goto (-61), 3) := by decide +kernel
theorem dX4_bribe_104 : decode cX4_bribe 104 = .ok (.iinc 3 1, 3) := by decide +kernel
theorem dX4_bribe_107 : decode cX4_bribe 107 = .ok (.goto (-83), 3) := by decide +kernel
theorem dX4_bribe_110 : decode cX4_bribe 110 = .ok (.iload_n 2, 1) := by decide +kernel
theorem dX4_bribe_111 : decode cX4_bribe 111 = .ok (.ireturn, 1) := by decide +kernel
theorem dX4_ownBribe_0 : decode cX4_ownBribe 0 = .ok (.aload_n 0, 1) := by decide +kernel
theorem dX4_ownBribe_1 : decode cX4_ownBribe 1 = .ok (.iload_n 1, 1) := by decide +kernel
theorem dX4_ownBribe_2 : decode cX4_ownBribe 2 = .ok (.iconst 0, 1) := by decide +kernel
theorem dX4_ownBribe_3 : decode cX4_ownBribe 3 = .ok (.iconst 0, 1) := by decide +kernel
theorem dX4_ownBribe_4 : decode cX4_ownBribe 4 = .ok (.invokevirtual 163, 3) := by decide +kernel
theorem dX4_ownBribe_7 : decode cX4_ownBribe 7 = .ok (.istore_n 2, 1) := by decide +kernel
theorem dX4_ownBribe_8 : decode cX4_ownBribe 8 = .ok (.iload_n 2, 1) := by decide +kernel
theorem dX4_ownBribe_9 : decode cX4_ownBribe 9 = .ok (.ifCond .eq 9, 3) := by decide +kernel
theorem dX4_ownBribe_12 : decode cX4_ownBribe 12 = .ok (.aload_n 0, 1) := by decide +kernel
theorem dX4_ownBribe_13 : decode cX4_ownBribe 13 = .ok (.iload_n 2, 1) := by decide +kernel
theorem dX4_ownBribe_14 : decode cX4_ownBribe 14 = .ok (.invokevirtual 58, 3) := by decide +kernel
theorem dX4_ownBribe_17 : decode cX4_ownBribe 17 = .ok (.ireturn, 1) := by decide +kernel
theorem dX4_ownBribe_18 : decode cX4_ownBribe 18 = .ok (.aload_n 0, 1) := by decide +kernel
theorem dX4_ownBribe_19 : decode cX4_ownBribe 19 = .ok (.getfield 16, 3) := by decide +kernel
theorem dX4_ownBribe_22 : decode cX4_ownBribe 22 = .ok (.aload_n 0, 1) := by decide +kernel
theorem dX4_ownBribe_23 : decode cX4_ownBribe 23 = .ok (.getfield 10, 3) := by decide +kernel
theorem dX4_ownBribe_26 : decode cX4_ownBribe 26 = .ok (.invokevirtual 82, 3) := by decide +kernel
theorem dX4_ownBribe_29 : decode cX4_ownBribe 29 = .ok (.aload_n 0, 1) := by decide +kernel
theorem dX4_ownBribe_30 : decode cX4_ownBribe 30 = .ok (.getfield 10, 3) := by decide +kernel
theorem dX4_ownBribe_33 : decode cX4_ownBribe 33 = .ok (.iload_n 1, 1) := by decide +kernel
theorem dX4_ownBribe_34 : decode cX4_ownBribe 34 = .ok (.invokevirtual 176, 3) := by decide +kernel
theorem dX4_ownBribe_37 : decode cX4_ownBribe 37 = .ok (.istore_n 3, 1) := by decide +kernel
theorem dX4_ownBribe_38 : decode cX4_ownBribe 38 = .ok (.bipush (-9), 2) := by decide +kernel
theorem dX4_ownBribe_40 : decode cX4_ownBribe 40 = .ok (.istore 4, 2) := by decide +kernel
theorem dX4_ownBribe_42 : decode cX4_ownBribe 42 = .ok (.iconst 0, 1) := by decide +kernel
theorem dX4_ownBribe_43 : decode cX4_ownBribe 43 = .ok (.istore 5, 2) := by decide +kernel
theorem dX4_ownBribe_45 : decode cX4_ownBribe 45 = .ok (.iload 5, 2) := by decide +kernel
theorem dX4_ownBribe_47 : decode cX4_ownBribe 47 = .ok (.aload_n 0, 1) := by decide +kernel
theorem dX4_ownBribe_48 : decode cX4_ownBribe 48 = .ok (.getfield 10, 3) := by decide +kernel
theorem dX4_ownBribe_51 : decode cX4_ownBribe 51 = .ok (.getfield 108, 3) := by decide +kernel
theorem dX4_ownBribe_54 : decode cX4_ownBribe 54 = .ok (.if_icmp .ge 61, 3) := by decide +kernel
theorem dX4_ownBribe_57 : decode cX4_ownBribe 57 = .ok (.iload 5, 2) := by decide +kernel
theorem dX4_ownBribe_59 : decode cX4_ownBribe 59 = .ok (.iload_n 1, 1) := by decide +kernel
theorem dX4_ownBribe_60 : decode cX4_ownBribe 60 = .ok (.if_icmp .ne 6, 3) := by decide +kernel
theorem dX4_ownBribe_63 : decode cX4_ownBribe 63 = .ok (.goto 46, 3) := by decide +kernel
theorem dX4_ownBribe_66 : decode cX4_ownBribe 66 = .ok (.aload_n 0, 1) := by decide +kernel
theorem dX4_ownBribe_67 : decode cX4_ownBribe 67 = .ok (.getfield 16, 3) := by decide +kernel
theorem dX4_ownBribe_70 : decode cX4_ownBribe 70 = .ok (.iload_n 1, 1) := by decide +kernel
theorem dX4_ownBribe_71 : decode cX4_ownBribe 71 = .ok (.iload 5, 2) := by decide +kernel
theorem dX4_ownBribe_73 : decode cX4_ownBribe 73 = .ok (.invokevirtual 126, 3) := by decide +kernel
theorem dX4_ownBribe_76 : decode cX4_ownBribe 76 = .ok (.aload_n 0, 1) := by decide +kernel
theorem dX4_ownBribe_77 : decode cX4_ownBribe 77 = .ok (.getfield 16, 3) := by decide +kernel
theorem dX4_ownBribe_80 : decode cX4_ownBribe 80 = .ok (.iload_n 1, 1) := by decide +kernel
theorem dX4_ownBribe_81 : decode cX4_ownBribe 81 = .ok (.invokevirtual 176, 3) := by decide +kernel
theorem dX4_ownBribe_84 : decode cX4_ownBribe 84 = .ok (.istore 6, 2) := by decide +kernel
theorem dX4_ownBribe_86 : decode cX4_ownBribe 86 = .ok (.aload_n 0, 1) := by decide +kernel
theorem dX4_ownBribe_87 : decode cX4_ownBribe 87 = .ok (.getfield 16, 3) := by decide +kernel
theorem dX4_ownBribe_90 : decode cX4_ownBribe 90 = .ok (.iload_n 1, 1) := by decide +kernel
theorem dX4_ownBribe_91 : decode cX4_ownBribe 91 = .ok (.iload 5, 2) := by decide +kernel
theorem dX4_ownBribe_93 : decode cX4_ownBribe 93 = .ok (.invokevirtual 126, 3) := by decide +kernel
theorem dX4_ownBribe_96 : decode cX4_ownBribe 96 = .ok (.iload 6, 2) := by decide +kernel
theorem dX4_ownBribe_98 : decode cX4_ownBribe 98 = .ok (.iload_n 3, 1) := by decide +kernel
theorem dX4_ownBribe_99 : decode cX4_ownBribe 99 = .ok (.if_icmp .le 10, 3) := by decide +kernel
theorem dX4_ownBribe_102 : decode cX4_ownBribe 102 = .ok (.iload 6, 2) := by decide +kernel
theorem dX4_ownBribe_104 : decode cX4_ownBribe 104 = .ok (.istore_n 3, 1) := by decide +kernel
theorem dX4_ownBribe_105 : decode cX4_ownBribe 105 = .ok (.iload 5, 2) := by decide +kernel
theorem dX4_ownBribe_107 : decode cX4_ownBribe 107 = .ok (.istore 4, 2) := by decide +kernel
theorem dX4_ownBribe_109 : decode cX4_ownBribe 109 = .ok (.iinc 5 1, 3) := by decide +kernel
theorem dX4_ownBribe_112 : decode cX4_ownBribe 112 = .ok (.goto (-67), 3) := by decide +kernel
theorem dX4_ownBribe_115 : decode cX4_ownBribe 115 = .ok (.iload 4, 2) := by decide +kernel
theorem dX4_ownBribe_117 : decode cX4_ownBribe 117 = .ok (.ireturn, 1) := by decide +kernel
theorem dX4_page_0 : decode cX4_page 0 = .ok (.aload_n 0, 1) := by decide +kernel
theorem dX4_page_1 : decode cX4_page 1 = .ok (.iload_n 1, 1) := by decide +kernel
theorem dX4_page_2 : decode cX4_page 2 = .ok (.iload_n 2, 1) := by decide +kernel
theorem dX4_page_3 : decode cX4_page 3 = .ok (.iconst 1, 1) := by decide +kernel
theorem dX4_page_4 : decode cX4_page 4 = .ok (.invokevirtual 163, 3) := by decide +kernel
theorem dX4_page_7 : decode cX4_page 7 = .ok (.istore_n 3, 1) := by decide +kernel
theorem dX4_page_8 : decode cX4_page 8 = .ok (.iload_n 3, 1) := by decide +kernel
theorem dX4_page_9 : decode cX4_page 9 = .ok (.ifCond .eq 9, 3) := by decide +kernel
theorem dX4_page_12 : decode cX4_page 12 = .ok (.aload_n 0, 1) := by decide +kernel
theorem dX4_page_13 : decode cX4_page 13 = .ok (.iload_n 3, 1) := by decide +kernel
theorem dX4_page_14 : decode cX4_page 14 = .ok (.invokevirtual 167, 3) := by decide +kernel
theorem dX4_page_17 : decode cX4_page 17 = .ok (.ireturn, 1) := by decide +kernel
theorem dX4_page_18 : decode cX4_page 18 = .ok (.aload_n 0, 1) := by decide +kernel
theorem dX4_page_19 : decode cX4_page 19 = .ok (.getfield 16, 3) := by decide +kernel
theorem dX4_page_22 : decode cX4_page 22 = .ok (.aload_n 0, 1) := by decide +kernel
theorem dX4_page_23 : decode cX4_page 23 = .ok (.getfield 10, 3) := by decide +kernel
theorem dX4_page_26 : decode cX4_page 26 = .ok (.invokevirtual 82, 3) := by decide +kernel
theorem dX4_page_29 : decode cX4_page 29 = .ok (.bipush (-9), 2) := by decide +kernel
theorem dX4_page_31 : decode cX4_page 31 = .ok (.istore 4, 2) := by decide +kernel
theorem dX4_page_33 : decode cX4_page 33 = .ok (.iconst 0, 1) := by decide +kernel
theorem dX4_page_34 : decode cX4_page 34 = .ok (.istore 5, 2) := by decide +kernel
theorem dX4_page_36 : decode cX4_page 36 = .ok (.iconst 0, 1) := by decide +kernel
theorem dX4_page_37 : decode cX4_page 37 = .ok (.istore 6, 2) := by decide +kernel
theorem dX4_page_39 : decode cX4_page 39 = .ok (.iload 6, 2) := by decide +kernel
theorem dX4_page_41 : decode cX4_page 41 = .ok (.bipush 10, 2) := by decide +kernel
theorem dX4_page_43 : decode cX4_page 43 = .ok (.if_icmp .ge 54, 3) := by decide +kernel
theorem dX4_page_46 : decode cX4_page 46 = .ok (.aload_n 0, 1) := by decide +kernel
theorem dX4_page_47 : decode cX4_page 47 = .ok (.getfield 16, 3) := by decide +kernel
theorem dX4_page_50 : decode cX4_page 50 = .ok (.getfield 133, 3) := by decide +kernel
theorem dX4_page_53 : decode cX4_page 53 = .ok (.iload_n 1, 1) := by decide +kernel
theorem dX4_page_54 : decode cX4_page 54 = .ok (.iload 6, 2) := by decide +kernel
theorem dX4_page_56 : decode cX4_page 56 = .ok (.invokevirtual 136, 3) := by decide +kernel
theorem dX4_page_59 : decode cX4_page 59 = .ok (.aload_n 0, 1) := by decide +kernel
theorem dX4_page_60 : decode cX4_page 60 = .ok (.getfield 16, 3) := by decide +kernel
theorem dX4_page_63 : decode cX4_page 63 = .ok (.iload_n 1, 1) := by decide +kernel
theorem dX4_page_64 : decode cX4_page 64 = .ok (.invokevirtual 176, 3) := by decide +kernel
theorem dX4_page_67 : decode cX4_page 67 = .ok (.istore 7, 2) := by decide +kernel
theorem dX4_page_69 : decode cX4_page 69 = .ok (.iload 4, 2) := by decide +kernel
theorem dX4_page_71 : decode cX4_page 71 = .ok (.bipush (-9), 2) := by decide +kernel
theorem dX4_page_73 : decode cX4_page 73 = .ok (.if_icmp .eq 10, 3) := by decide +kernel
theorem dX4_page_76 : decode cX4_page 76 = .ok (.iload 7, 2) := by decide +kernel
theorem dX4_page_78 : decode cX4_page 78 = .ok (.iload 5, 2) := by decide +kernel
theorem dX4_page_80 : decode cX4_page 80 = .ok (.if_icmp .le 11, 3) := by decide +kernel
theorem dX4_page_83 : decode cX4_page 83 = .ok (.iload 7, 2) := by decide +kernel
theorem dX4_page_85 : decode cX4_page 85 = .ok (.istore 5, 2) := by decide +kernel
theorem dX4_page_87 : decode cX4_page 87 = .ok (.iload 6, 2) := by decide +kernel
theorem dX4_page_89 : decode cX4_page 89 = .ok (.istore 4, 2) := by decide +kernel
theorem dX4_page_91 : decode cX4_page 91 = .ok (.iinc 6 1, 3) := by decide +kernel
theorem dX4_page_94 : decode cX4_page 94 = .ok (.goto (-55), 3) := by decide +kernel
theorem dX4_page_97 : decode cX4_page 97 = .ok (.iload_n 2, 1) := by decide +kernel
theorem dX4_page_98 : decode cX4_page 98 = .ok (.ifCond .ne 8, 3) := by decide +kernel
theorem dX4_page_101 : decode cX4_page 101 = .ok (.iload 4, 2) := by decide +kernel
theorem dX4_page_103 : decode cX4_page 103 = .ok (.goto 5, 3) := by decide +kernel
theorem dX4_page_106 : decode cX4_page 106 = .ok (.iload 5, 2) := by decide +kernel
theorem dX4_page_108 : decode cX4_page 108 = .ok (.ireturn, 1) := by decide +kernel
theorem dX4_ender_0 : decode cX4_ender 0 = .ok (.aload_n 0, 1) := by decide +kernel
theorem dX4_ender_1 : decode cX4_ender 1 = .ok (.iload_n 1, 1) := by decide +kernel
theorem dX4_ender_2 : decode cX4_ender 2 = .ok (.iload_n 2, 1) := by decide +kernel
theorem dX4_ender_3 : decode cX4_ender 3 = .ok (.iconst 1, 1) := by decide +kernel
theorem dX4_ender_4 : decode cX4_ender 4 = .ok (.invokevirtual 163, 3) := by decide +kernel
theorem dX4_ender_7 : decode cX4_ender 7 = .ok (.istore_n 3, 1) := by decide +kernel
theorem dX4_ender_8 : decode cX4_ender 8 = .ok (.iload_n 3, 1) := by decide +kernel
theorem dX4_ender_9 : decode cX4_ender 9 = .ok (.ifCond .eq 9, 3) := by decide +kernel
theorem dX4_ender_12 : decode cX4_ender 12 = .ok (.aload_n 0, 1) := by decide +kernel
theorem dX4_ender_13 : decode cX4_ender 13 = .ok (.iload_n 3, 1) := by decide +kernel
theorem dX4_ender_14 : decode cX4_ender 14 = .ok (.invokevirtual 167, 3) := by decide +kernel
theorem dX4_ender_17 : decode cX4_ender 17 = .ok (.ireturn, 1) := by decide +kernel
theorem dX4_ender_18 : decode cX4_ender 18 = .ok (.bipush (-9), 2) := by decide +kernel
theorem dX4_ender_20 : decode cX4_ender 20 = .ok (.istore 4, 2) := by decide +kernel
theorem dX4_ender_22 : decode cX4_ender 22 = .ok (.iconst 0, 1) := by decide +kernel
theorem dX4_ender_23 : decode cX4_ender 23 = .ok (.istore 5, 2) := by decide +kernel
theorem dX4_ender_25 : decode cX4_ender 25 = .ok (.iconst 0, 1) := by decide +kernel
theorem dX4_ender_26 : decode cX4_ender 26 = .ok (.istore 6, 2) := by decide +kernel
theorem dX4_ender_28 : decode cX4_ender 28 = .ok (.iload 6, 2) := by decide +kernel
theorem dX4_ender_30 : decode cX4_ender 30 = .ok (.aload_n 0, 1) := by decide +kernel
theorem dX4_ender_31 : decode cX4_ender 31 = .ok (.getfield 10, 3) := by decide +kernel
theorem dX4_ender_34 : decode cX4_ender 34 = .ok (.getfield 108, 3) := by decide +kernel
theorem dX4_ender_37 : decode cX4_ender 37 = .ok (.if_icmp .ge 52, 3) := by decide +kernel
theorem dX4_ender_40 : decode cX4_ender 40 = .ok (.iload 6, 2) := by decide +kernel
theorem dX4_ender_42 : decode cX4_ender 42 = .ok (.iload_n 1, 1) := by decide +kernel
theorem dX4_ender_43 : decode cX4_ender 43 = .ok (.if_icmp .ne 6, 3) := by decide +kernel
theorem dX4_ender_46 : decode cX4_ender 46 = .ok (.goto 37, 3) := by decide +kernel
theorem dX4_ender_49 : decode cX4_ender 49 = .ok (.aload_n 0, 1) := by decide +kernel
theorem dX4_ender_50 : decode cX4_ender 50 = .ok (.getfield 10, 3) := by decide +kernel
theorem dX4_ender_53 : decode cX4_ender 53 = .ok (.iload_n 1, 1) := by decide +kernel
theorem dX4_ender_54 : decode cX4_ender 54 = .ok (.iload 6, 2) := by decide +kernel
theorem dX4_ender_56 : decode cX4_ender 56 = .ok (.invokevirtual 227, 3) := by decide +kernel
theorem dX4_ender_59 : decode cX4_ender 59 = .ok (.istore 7, 2) := by decide +kernel
theorem dX4_ender_61 : decode cX4_ender 61 = .ok (.iload 4, 2) := by decide +kernel
theorem dX4_ender_63 : decode cX4_ender 63 = .ok (.bipush (-9), 2) := by decide +kernel
theorem dX4_ender_65 : decode cX4_ender 65 = .ok (.if_icmp .eq 10, 3) := by decide +kernel
theorem dX4_ender_68 : decode cX4_ender 68 = .ok (.iload 7, 2) := by decide +kernel
theorem dX4_ender_70 : decode cX4_ender 70 = .ok (.iload 5, 2) := by decide +kernel
theorem dX4_ender_72 : decode cX4_ender 72 = .ok (.if_icmp .le 11, 3) := by decide +kernel
theorem dX4_ender_75 : decode cX4_ender 75 = .ok (.iload 7, 2) := by decide +kernel
theorem dX4_ender_77 : decode cX4_ender 77 = .ok (.istore 5, 2) := by decide +kernel
theorem dX4_ender_79 : decode cX4_ender 79 = .ok (.iload 6, 2) := by decide +kernel
theorem dX4_ender_81 : decode cX4_ender 81 = .ok (.istore 4, 2) := by decide +kernel
theorem dX4_ender_83 : decode cX4_ender 83 = .ok (.iinc 6 1, 3) := by decide +kernel
theorem dX4_ender_86 : decode cX4_ender 86 = .ok (.goto (-58), 3) := by decide +kernel
theorem dX4_ender_89 : decode cX4_ender 89 = .ok (.iload_n 2, 1) := by decide +kernel
theorem dX4_ender_90 : decode cX4_ender 90 = .ok (.ifCond .ne 8, 3) := by decide +kernel
theorem dX4_ender_93 : decode cX4_ender 93 = .ok (.iload 4, 2) := by decide +kernel
theorem dX4_ender_95 : decode cX4_ender 95 = .ok (.goto 5, 3) := by decide +kernel
theorem dX4_ender_98 : decode cX4_ender 98 = .ok (.iload 5, 2) := by decide +kernel
theorem dX4_ender_100 : decode cX4_ender 100 = .ok (.ireturn, 1) := by decide +kernel
theorem dX4_hush_0 : decode cX4_hush 0 = .ok (.aload_n 0, 1) := by decide +kernel
theorem dX4_hush_1 : decode cX4_hush 1 = .ok (.getfield 16, 3) := by decide +kernel
theorem dX4_hush_4 : decode cX4_hush 4 = .ok (.aload_n 0, 1) := by decide +kernel
theorem dX4_hush_5 : decode cX4_hush 5 = .ok (.getfield 10, 3) := by decide +kernel
theorem dX4_hush_8 : decode cX4_hush 8 = .ok (.invokevirtual 82, 3) := by decide +kernel
theorem dX4_hush_11 : decode cX4_hush 11 = .ok (.aload_n 0, 1) := by decide +kernel
theorem dX4_hush_12 : decode cX4_hush 12 = .ok (.getfield 10, 3) := by decide +kernel
theorem dX4_hush_15 : decode cX4_hush 15 = .ok (.invokevirtual 198, 3) := by decide +kernel
theorem dX4_hush_18 : decode cX4_hush 18 = .ok (.istore_n 1, 1) := by decide +kernel
theorem dX4_hush_19 : decode cX4_hush 19 = .ok (.bipush (-9), 2) := by decide +kernel
theorem dX4_hush_21 : decode cX4_hush 21 = .ok (.istore_n 2, 1) := by decide +kernel
theorem dX4_hush_22 : decode cX4_hush 22 = .ok (.iconst 0, 1) := by decide +kernel
theorem dX4_hush_23 : decode cX4_hush 23 = .ok (.istore_n 3, 1) := by decide +kernel
theorem dX4_hush_24 : decode cX4_hush 24 = .ok (.iload_n 3, 1) := by decide +kernel
theorem dX4_hush_25 : decode cX4_hush 25 = .ok (.aload_n 0, 1) := by decide +kernel
theorem dX4_hush_26 : decode cX4_hush 26 = .ok (.getfield 10, 3) := by decide +kernel
theorem dX4_hush_29 : decode cX4_hush 29 = .ok (.getfield 108, 3) := by decide +kernel
theorem dX4_hush_32 : decode cX4_hush 32 = .ok (.if_icmp .ge 59, 3) := by decide +kernel
theorem dX4_hush_35 : decode cX4_hush 35 = .ok (.aload_n 0, 1) := by decide +kernel
theorem dX4_hush_36 : decode cX4_hush 36 = .ok (.getfield 10, 3) := by decide +kernel
theorem dX4_hush_39 : decode cX4_hush 39 = .ok (.iload_n 3, 1) := by decide +kernel
theorem dX4_hush_40 : decode cX4_hush 40 = .ok (.invokevirtual 179, 3) := by decide +kernel
theorem dX4_hush_43 : decode cX4_hush 43 = .ok (.ifCond .ne 6, 3) := by decide +kernel
theorem dX4_hush_46 : decode cX4_hush 46 = .ok (.goto 39, 3) := by decide +kernel
theorem dX4_hush_49 : decode cX4_hush 49 = .ok (.aload_n 0, 1) := by decide +kernel
theorem dX4_hush_50 : decode cX4_hush 50 = .ok (.getfield 16, 3) := by decide +kernel
theorem dX4_hush_53 : decode cX4_hush 53 = .ok (.iload_n 3, 1) := by decide +kernel
theorem dX4_hush_54 : decode cX4_hush 54 = .ok (.invokevirtual 130, 3) := by decide +kernel
theorem dX4_hush_57 : decode cX4_hush 57 = .ok (.aload_n 0, 1) := by decide +kernel
theorem dX4_hush_58 : decode cX4_hush 58 = .ok (.getfield 16, 3) := by decide +kernel
theorem dX4_hush_61 : decode cX4_hush 61 = .ok (.invokevirtual 198, 3) := by decide +kernel
theorem dX4_hush_64 : decode cX4_hush 64 = .ok (.istore 4, 2) := by decide +kernel
theorem dX4_hush_66 : decode cX4_hush 66 = .ok (.aload_n 0, 1) := by decide +kernel
theorem dX4_hush_67 : decode cX4_hush 67 = .ok (.getfield 16, 3) := by decide +kernel
theorem dX4_hush_70 : decode cX4_hush 70 = .ok (.iload_n 3, 1) := by decide +kernel
theorem dX4_hush_71 : decode cX4_hush 71 = .ok (.invokevirtual 130, 3) := by decide +kernel
theorem dX4_hush_74 : decode cX4_hush 74 = .ok (.iload 4, 2) := by decide +kernel
theorem dX4_hush_76 : decode cX4_hush 76 = .ok (.iload_n 1, 1) := by decide +kernel
theorem dX4_hush_77 : decode cX4_hush 77 = .ok (.if_icmp .le 8, 3) := by decide +kernel
theorem dX4_hush_80 : decode cX4_hush 80 = .ok (.iload 4, 2) := by decide +kernel
theorem dX4_hush_82 : decode cX4_hush 82 = .ok (.istore_n 1, 1) := by decide +kernel
theorem dX4_hush_83 : decode cX4_hush 83 = .ok (.iload_n 3, 1) := by decide +kernel
theorem dX4_hush_84 : decode cX4_hush 84 = .ok (.istore_n 2, 1) := by decide +kernel
theorem dX4_hush_85 : decode cX4_hush 85 = .ok (.iinc 3 1, 3) := by decide +kernel
theorem dX4_hush_88 : decode cX4_hush 88 = .ok (.goto (-64), 3) := by decide +kernel
theorem dX4_hush_91 : decode cX4_hush 91 = .ok (.iload_n 2, 1) := by decide +kernel
theorem dX4_hush_92 : decode cX4_hush 92 = .ok (.ireturn, 1) := by decide +kernel
theorem dX4_moves_0 : decode cX4_moves 0 = .ok (.aload_n 0, 1) := by decide +kernel
theorem dX4_moves_1 : decode cX4_moves 1 = .ok (.getfield 10, 3) := by decide +kernel
theorem dX4_moves_4 : decode cX4_moves 4 = .ok (.iload_n 1, 1) := by decide +kernel
theorem dX4_moves_5 : decode cX4_moves 5 = .ok (.invokevirtual 116, 3) := by decide +kernel
theorem dX4_moves_8 : decode cX4_moves 8 = .ok (.ifCond .eq 14, 3) := by decide +kernel
theorem dX4_moves_11 : decode cX4_moves 11 = .ok (.aload_n 0, 1) := by decide +kernel
theorem dX4_moves_12 : decode cX4_moves 12 = .ok (.getfield 10, 3) := by decide +kernel
theorem dX4_moves_15 : decode cX4_moves 15 = .ok (.iload_n 1, 1) := by decide +kernel
theorem dX4_moves_16 : decode cX4_moves 16 = .ok (.invokevirtual 154, 3) := by decide +kernel
theorem dX4_moves_19 : decode cX4_moves 19 = .ok (.goto 8, 3) := by decide +kernel
theorem dX4_moves_22 : decode cX4_moves 22 = .ok (.aload_n 0, 1) := by decide +kernel
theorem dX4_moves_23 : decode cX4_moves 23 = .ok (.iconst (-1), 1) := by decide +kernel
theorem dX4_moves_24 : decode cX4_moves 24 = .ok (.invokevirtual 58, 3) := by decide +kernel
theorem dX4_moves_27 : decode cX4_moves 27 = .ok (.ireturn, 1) := by decide +kernel
theorem dX4_two_0 : decode cX4_two 0 = .ok (.aload_n 0, 1) := by decide +kernel
theorem dX4_two_1 : decode cX4_two 1 = .ok (.getfield 10, 3) := by decide +kernel
theorem dX4_two_4 : decode cX4_two 4 = .ok (.iload_n 1, 1) := by decide +kernel
theorem dX4_two_5 : decode cX4_two 5 = .ok (.iload_n 2, 1) := by decide +kernel
theorem dX4_two_6 : decode cX4_two 6 = .ok (.invokevirtual 109, 3) := by decide +kernel
theorem dX4_two_9 : decode cX4_two 9 = .ok (.ifCond .ne 9, 3) := by decide +kernel
theorem dX4_two_12 : decode cX4_two 12 = .ok (.aload_n 0, 1) := by decide +kernel
theorem dX4_two_13 : decode cX4_two 13 = .ok (.iconst (-1), 1) := by decide +kernel
theorem dX4_two_14 : decode cX4_two 14 = .ok (.invokevirtual 58, 3) := by decide +kernel
theorem dX4_two_17 : decode cX4_two 17 = .ok (.ireturn, 1) := by decide +kernel
theorem dX4_two_18 : decode cX4_two 18 = .ok (.aload_n 0, 1) := by decide +kernel
theorem dX4_two_19 : decode cX4_two 19 = .ok (.getfield 10, 3) := by decide +kernel
theorem dX4_two_22 : decode cX4_two 22 = .ok (.iload_n 1, 1) := by decide +kernel
theorem dX4_two_23 : decode cX4_two 23 = .ok (.invokevirtual 179, 3) := by decide +kernel
theorem dX4_two_26 : decode cX4_two 26 = .ok (.ifCond .eq 14, 3) := by decide +kernel
theorem dX4_two_29 : decode cX4_two 29 = .ok (.aload_n 0, 1) := by decide +kernel
theorem dX4_two_30 : decode cX4_two 30 = .ok (.getfield 10, 3) := by decide +kernel
theorem dX4_two_33 : decode cX4_two 33 = .ok (.iload_n 2, 1) := by decide +kernel
theorem dX4_two_34 : decode cX4_two 34 = .ok (.invokevirtual 179, 3) := by decide +kernel
theorem dX4_two_37 : decode cX4_two 37 = .ok (.ifCond .ne 10, 3) := by decide +kernel
theorem dX4_two_40 : decode cX4_two 40 = .ok (.aload_n 0, 1) := by decide +kernel
theorem dX4_two_41 : decode cX4_two 41 = .ok (.bipush (-3), 2) := by decide +kernel
theorem dX4_two_43 : decode cX4_two 43 = .ok (.invokevirtual 58, 3) := by decide +kernel
theorem dX4_two_46 : decode cX4_two 46 = .ok (.ireturn, 1) := by decide +kernel
theorem dX4_two_47 : decode cX4_two 47 = .ok (.iconst 0, 1) := by decide +kernel
theorem dX4_two_48 : decode cX4_two 48 = .ok (.istore_n 3, 1) := by decide +kernel
theorem dX4_two_49 : decode cX4_two 49 = .ok (.iload_n 3, 1) := by decide +kernel
theorem dX4_two_50 : decode cX4_two 50 = .ok (.iconst 4, 1) := by decide +kernel
theorem dX4_two_51 : decode cX4_two 51 = .ok (.if_icmp .ge 16, 3) := by decide +kernel
theorem dX4_two_54 : decode cX4_two 54 = .ok (.aload_n 0, 1) := by decide +kernel
theorem dX4_two_55 : decode cX4_two 55 = .ok (.iload_n 1, 1) := by decide +kernel
theorem dX4_two_56 : decode cX4_two 56 = .ok (.iload_n 2, 1) := by decide +kernel
theorem dX4_two_57 : decode cX4_two 57 = .ok (.iload_n 3, 1) := by decide +kernel
theorem dX4_two_58 : decode cX4_two 58 = .ok (.invokevirtual 230, 3) := by decide +kernel
theorem dX4_two_61 : decode cX4_two 61 = .ok (.iinc 3 1, 3) := by decide +kernel
theorem dX4_two_64 : decode cX4_two 64 = .ok (.goto (-15), 3) := by decide +kernel
theorem dX4_two_67 : decode cX4_two 67 = .ok (.iconst 0, 1) := by decide +kernel
theorem dX4_two_68 : decode cX4_two 68 = .ok (.istore_n 3, 1) := by decide +kernel
theorem dX4_two_69 : decode cX4_two 69 = .ok (.iload_n 3, 1) := by decide +kernel
theorem dX4_two_70 : decode cX4_two 70 = .ok (.iconst 4, 1) := by decide +kernel
theorem dX4_two_71 : decode cX4_two 71 = .ok (.if_icmp .ge 62, 3) := by decide +kernel
theorem dX4_two_74 : decode cX4_two 74 = .ok (.aload_n 0, 1) := by decide +kernel
theorem dX4_two_75 : decode cX4_two 75 = .ok (.getfield 45, 3) := by decide +kernel
theorem dX4_two_78 : decode cX4_two 78 = .ok (.iload_n 3, 1) := by decide +kernel
theorem dX4_two_79 : decode cX4_two 79 = .ok (.invokevirtual 105, 3) := by decide +kernel
theorem dX4_two_82 : decode cX4_two 82 = .ok (.aload_n 0, 1) := by decide +kernel
theorem dX4_two_83 : decode cX4_two 83 = .ok (.getfield 45, 3) := by decide +kernel
theorem dX4_two_86 : decode cX4_two 86 = .ok (.iload_n 3, 1) := by decide +kernel
theorem dX4_two_87 : decode cX4_two 87 = .ok (.iconst 2, 1) := by decide +kernel
theorem dX4_two_88 : decode cX4_two 88 = .ok (.ixor, 1) := by decide +kernel
theorem dX4_two_89 : decode cX4_two 89 = .ok (.invokevirtual 105, 3) := by decide +kernel
theorem dX4_two_92 : decode cX4_two 92 = .ok (.if_icmp .lt 35, 3) := by decide +kernel
theorem dX4_two_95 : decode cX4_two 95 = .ok (.aload_n 0, 1) := by decide +kernel
theorem dX4_two_96 : decode cX4_two 96 = .ok (.getfield 48, 3) := by decide +kernel
theorem dX4_two_99 : decode cX4_two 99 = .ok (.iload_n 3, 1) := by decide +kernel
theorem dX4_two_100 : decode cX4_two 100 = .ok (.invokevirtual 105, 3) := by decide +kernel
theorem dX4_two_103 : decode cX4_two 103 = .ok (.aload_n 0, 1) := by decide +kernel
theorem dX4_two_104 : decode cX4_two 104 = .ok (.getfield 48, 3) := by decide +kernel
theorem dX4_two_107 : decode cX4_two 107 = .ok (.iload_n 3, 1) := by decide +kernel
theorem dX4_two_108 : decode cX4_two 108 = .ok (.iconst 1, 1) := by decide +kernel
theorem dX4_two_109 : decode cX4_two 109 = .ok (.ixor, 1) := by decide +kernel
theorem dX4_two_110 : decode cX4_two 110 = .ok (.invokevirtual 105, 3) := by decide +kernel
theorem dX4_two_113 : decode cX4_two 113 = .ok (.if_icmp .lt 14, 3) := by decide +kernel
theorem dX4_two_116 : decode cX4_two 116 = .ok (.bipush 10, 2) := by decide +kernel
theorem dX4_two_118 : decode cX4_two 118 = .ok (.iload_n 3, 1) := by decide +kernel
theorem dX4_two_119 : decode cX4_two 119 = .ok (.iconst 1, 1) := by decide +kernel
theorem dX4_two_120 : decode cX4_two 120 = .ok (.ishr, 1) := by decide +kernel
theorem dX4_two_121 : decode cX4_two 121 = .ok (.imul, 1) := by decide +kernel
theorem dX4_two_122 : decode cX4_two 122 = .ok (.iload_n 3, 1) := by decide +kernel
theorem dX4_two_123 : decode cX4_two 123 = .ok (.iconst 1, 1) := by decide +kernel
theorem dX4_two_124 : decode cX4_two 124 = .ok (.iand, 1) := by decide +kernel
theorem dX4_two_125 : decode cX4_two 125 = .ok (.iadd, 1) := by decide +kernel
theorem dX4_two_126 : decode cX4_two 126 = .ok (.ireturn, 1) := by decide +kernel
theorem dX4_two_127 : decode cX4_two 127 = .ok (.iinc 3 1, 3) := by decide +kernel
theorem dX4_two_130 : decode cX4_two 130 = .ok (.goto (-61), 3) := by decide +kernel
theorem dX4_two_133 : decode cX4_two 133 = .ok (.bipush (-9), 2) := by decide +kernel
theorem dX4_two_135 : decode cX4_two 135 = .ok (.ireturn, 1) := by decide +kernel
theorem dX4_weighPair_0 : decode cX4_weighPair 0 = .ok (.aload_n 0, 1) := by decide +kernel
theorem dX4_weighPair_1 : decode cX4_weighPair 1 = .ok (.getfield 16, 3) := by decide +kernel
theorem dX4_weighPair_4 : decode cX4_weighPair 4 = .ok (.aload_n 0, 1) := by decide +kernel
theorem dX4_weighPair_5 : decode cX4_weighPair 5 = .ok (.getfield 10, 3) := by decide +kernel
theorem dX4_weighPair_8 : decode cX4_weighPair 8 = .ok (.invokevirtual 82, 3) := by decide +kernel
theorem dX4_weighPair_11 : decode cX4_weighPair 11 = .ok (.iload_n 3, 1) := by decide +kernel
theorem dX4_weighPair_12 : decode cX4_weighPair 12 = .ok (.iconst 1, 1) := by decide +kernel
theorem dX4_weighPair_13 : decode cX4_weighPair 13 = .ok (.if_icmp .ne 15, 3) := by decide +kernel
theorem dX4_weighPair_16 : decode cX4_weighPair 16 = .ok (.aload_n 0, 1) := by decide +kernel
theorem dX4_weighPair_17 : decode cX4_weighPair 17 = .ok (.getfield 16, 3) := by decide +kernel
theorem dX4_weighPair_20 : decode cX4_weighPair 20 = .ok (.iload_n 2, 1) := by decide +kernel
theorem dX4_weighPair_21 : decode cX4_weighPair 21 = .ok (.iload_n 1, 1) := by decide +kernel
theorem dX4_weighPair_22 : decode cX4_weighPair 22 = .ok (.invokevirtual 233, 3) := by decide +kernel
theorem dX4_weighPair_25 : decode cX4_weighPair 25 = .ok (.goto 34, 3) := by decide +kernel
theorem dX4_weighPair_28 : decode cX4_weighPair 28 = .ok (.iload_n 3, 1) := by decide +kernel
theorem dX4_weighPair_29 : decode cX4_weighPair 29 = .ok (.iconst 2, 1) := by decide +kernel
theorem dX4_weighPair_30 : decode cX4_weighPair 30 = .ok (.if_icmp .ne 15, 3) := by decide +kernel
theorem dX4_weighPair_33 : decode cX4_weighPair 33 = .ok (.aload_n 0, 1) := by decide +kernel
theorem dX4_weighPair_34 : decode cX4_weighPair 34 = .ok (.getfield 16, 3) := by decide +kernel
theorem dX4_weighPair_37 : decode cX4_weighPair 37 = .ok (.iload_n 1, 1) := by decide +kernel
theorem dX4_weighPair_38 : decode cX4_weighPair 38 = .ok (.iload_n 2, 1) := by decide +kernel
theorem dX4_weighPair_39 : decode cX4_weighPair 39 = .ok (.invokevirtual 233, 3) := by decide +kernel
theorem dX4_weighPair_42 : decode cX4_weighPair 42 = .ok (.goto 17, 3) := by decide +kernel
theorem dX4_weighPair_45 : decode cX4_weighPair 45 = .ok (.iload_n 3, 1) := by decide +kernel
theorem dX4_weighPair_46 : decode cX4_weighPair 46 = .ok (.iconst 3, 1) := by decide +kernel
theorem dX4_weighPair_47 : decode cX4_weighPair 47 = .ok (.if_icmp .ne 12, 3) := by decide +kernel
theorem dX4_weighPair_50 : decode cX4_weighPair 50 = .ok (.aload_n 0, 1) := by decide +kernel
theorem dX4_weighPair_51 : decode cX4_weighPair 51 = .ok (.getfield 16, 3) := by decide +kernel
theorem dX4_weighPair_54 : decode cX4_weighPair 54 = .ok (.iload_n 1, 1) := by decide +kernel
theorem dX4_weighPair_55 : decode cX4_weighPair 55 = .ok (.iload_n 2, 1) := by decide +kernel
theorem dX4_weighPair_56 : decode cX4_weighPair 56 = .ok (.invokevirtual 126, 3) := by decide +kernel
theorem dX4_weighPair_59 : decode cX4_weighPair 59 = .ok (.aload_n 0, 1) := by decide +kernel
theorem dX4_weighPair_60 : decode cX4_weighPair 60 = .ok (.getfield 45, 3) := by decide +kernel
theorem dX4_weighPair_63 : decode cX4_weighPair 63 = .ok (.iload_n 3, 1) := by decide +kernel
theorem dX4_weighPair_64 : decode cX4_weighPair 64 = .ok (.aload_n 0, 1) := by decide +kernel
theorem dX4_weighPair_65 : decode cX4_weighPair 65 = .ok (.getfield 16, 3) := by decide +kernel
theorem dX4_weighPair_68 : decode cX4_weighPair 68 = .ok (.iload_n 1, 1) := by decide +kernel
theorem dX4_weighPair_69 : decode cX4_weighPair 69 = .ok (.invokevirtual 176, 3) := by decide +kernel
theorem dX4_weighPair_72 : decode cX4_weighPair 72 = .ok (.iconst 2, 1) := by decide +kernel
theorem dX4_weighPair_73 : decode cX4_weighPair 73 = .ok (.iload_n 3, 1) := by decide +kernel
theorem dX4_weighPair_74 : decode cX4_weighPair 74 = .ok (.iconst 1, 1) := by decide +kernel
theorem dX4_weighPair_75 : decode cX4_weighPair 75 = .ok (.ishr, 1) := by decide +kernel
theorem dX4_weighPair_76 : decode cX4_weighPair 76 = .ok (.imul, 1) := by decide +kernel
theorem dX4_weighPair_77 : decode cX4_weighPair 77 = .ok (.isub, 1) := by decide +kernel
theorem dX4_weighPair_78 : decode cX4_weighPair 78 = .ok (.invokevirtual 136, 3) := by decide +kernel
theorem dX4_weighPair_81 : decode cX4_weighPair 81 = .ok (.aload_n 0, 1) := by decide +kernel
theorem dX4_weighPair_82 : decode cX4_weighPair 82 = .ok (.getfield 48, 3) := by decide +kernel
theorem dX4_weighPair_85 : decode cX4_weighPair 85 = .ok (.iload_n 3, 1) := by decide +kernel
theorem dX4_weighPair_86 : decode cX4_weighPair 86 = .ok (.aload_n 0, 1) := by decide +kernel
theorem dX4_weighPair_87 : decode cX4_weighPair 87 = .ok (.getfield 16, 3) := by decide +kernel
theorem dX4_weighPair_90 : decode cX4_weighPair 90 = .ok (.iload_n 2, 1) := by decide +kernel
theorem dX4_weighPair_91 : decode cX4_weighPair 91 = .ok (.invokevirtual 176, 3) := by decide +kernel
theorem dX4_weighPair_94 : decode cX4_weighPair 94 = .ok (.iconst 2, 1) := by decide +kernel
theorem dX4_weighPair_95 : decode cX4_weighPair 95 = .ok (.iload_n 3, 1) := by decide +kernel
theorem dX4_weighPair_96 : decode cX4_weighPair 96 = .ok (.iconst 1, 1) := by decide +kernel
theorem dX4_weighPair_97 : decode cX4_weighPair 97 = .ok (.iand, 1) := by decide +kernel
theorem dX4_weighPair_98 : decode cX4_weighPair 98 = .ok (.imul, 1) := by decide +kernel
theorem dX4_weighPair_99 : decode cX4_weighPair 99 = .ok (.isub, 1) := by decide +kernel
theorem dX4_weighPair_100 : decode cX4_weighPair 100 = .ok (.invokevirtual 136, 3) := by decide +kernel
theorem dX4_weighPair_103 : decode cX4_weighPair 103 = .ok (.return_, 1) := by decide +kernel
theorem dX4_censor_0 : decode cX4_censor 0 = .ok (.aload_n 0, 1) := by decide +kernel
theorem dX4_censor_1 : decode cX4_censor 1 = .ok (.getfield 10, 3) := by decide +kernel
theorem dX4_censor_4 : decode cX4_censor 4 = .ok (.iload_n 1, 1) := by decide +kernel
theorem dX4_censor_5 : decode cX4_censor 5 = .ok (.invokevirtual 116, 3) := by decide +kernel
theorem dX4_censor_8 : decode cX4_censor 8 = .ok (.ifCond .ne 9, 3) := by decide +kernel
theorem dX4_censor_11 : decode cX4_censor 11 = .ok (.aload_n 0, 1) := by decide +kernel
theorem dX4_censor_12 : decode cX4_censor 12 = .ok (.iconst (-1), 1) := by decide +kernel
theorem dX4_censor_13 : decode cX4_censor 13 = .ok (.invokevirtual 236, 3) := by decide +kernel
theorem dX4_censor_16 : decode cX4_censor 16 = .ok (.lreturn, 1) := by decide +kernel
theorem dX4_censor_17 : decode cX4_censor 17 = .ok (.iload_n 2, 1) := by decide +kernel
theorem dX4_censor_18 : decode cX4_censor 18 = .ok (.ifCond .lt 13, 3) := by decide +kernel
theorem dX4_censor_21 : decode cX4_censor 21 = .ok (.iload 4, 2) := by decide +kernel
theorem dX4_censor_23 : decode cX4_censor 23 = .ok (.ifCond .lt 8, 3) := by decide +kernel
theorem dX4_censor_26 : decode cX4_censor 26 = .ok (.iload_n 3, 1) := by decide +kernel
theorem dX4_censor_27 : decode cX4_censor 27 = .ok (.iconst 2, 1) := by decide +kernel
theorem dX4_censor_28 : decode cX4_censor 28 = .ok (.if_icmp .ge 10, 3) := by decide +kernel
theorem dX4_censor_31 : decode cX4_censor 31 = .ok (.aload_n 0, 1) := by decide +kernel
theorem dX4_censor_32 : decode cX4_censor 32 = .ok (.bipush (-4), 2) := by decide +kernel
theorem dX4_censor_34 : decode cX4_censor 34 = .ok (.invokevirtual 236, 3) := by decide +kernel
theorem dX4_censor_37 : decode cX4_censor 37 = .ok (.lreturn, 1) := by decide +kernel
theorem dX4_censor_38 : decode cX4_censor 38 = .ok (.iload_n 2, 1) := by decide +kernel
theorem dX4_censor_39 : decode cX4_censor 39 = .ok (.bipush 7, 2) := by decide +kernel
theorem dX4_censor_41 : decode cX4_censor 41 = .ok (.if_icmp .gt 16, 3) := by decide +kernel
theorem dX4_censor_44 : decode cX4_censor 44 = .ok (.iload_n 3, 1) := by decide +kernel
theorem dX4_censor_45 : decode cX4_censor 45 = .ok (.bipush 20, 2) := by decide +kernel
theorem dX4_censor_47 : decode cX4_censor 47 = .ok (.if_icmp .gt 10, 3) := by decide +kernel
theorem dX4_censor_50 : decode cX4_censor 50 = .ok (.iload 4, 2) := by decide +kernel
theorem dX4_censor_52 : decode cX4_censor 52 = .ok (.bipush 99, 2) := by decide +kernel
theorem dX4_censor_54 : decode cX4_censor 54 = .ok (.if_icmp .le 10, 3) := by decide +kernel
theorem dX4_censor_57 : decode cX4_censor 57 = .ok (.aload_n 0, 1) := by decide +kernel
theorem dX4_censor_58 : decode cX4_censor 58 = .ok (.bipush (-6), 2) := by decide +kernel
theorem dX4_censor_60 : decode cX4_censor 60 = .ok (.invokevirtual 236, 3) := by decide +kernel
theorem dX4_censor_63 : decode cX4_censor 63 = .ok (.lreturn, 1) := by decide +kernel
theorem dX4_censor_64 : decode cX4_censor 64 = .ok (.iload 5, 2) := by decide +kernel
theorem dX4_censor_66 : decode cX4_censor 66 = .ok (.ifCond .eq 16, 3) := by decide +kernel
theorem dX4_censor_69 : decode cX4_censor 69 = .ok (.iload 5, 2) := by decide +kernel
theorem dX4_censor_71 : decode cX4_censor 71 = .ok (.iconst 1, 1) := by decide +kernel
theorem dX4_censor_72 : decode cX4_censor 72 = .ok (.if_icmp .eq 10, 3) := by decide +kernel
theorem dX4_censor_75 : decode cX4_censor 75 = .ok (.aload_n 0, 1) := by decide +kernel
theorem dX4_censor_76 : decode cX4_censor 76 = .ok (.bipush (-2), 2) := by decide +kernel
theorem dX4_censor_78 : decode cX4_censor 78 = .ok (.invokevirtual 236, 3) := by decide +kernel
theorem dX4_censor_81 : decode cX4_censor 81 = .ok (.lreturn, 1) := by decide +kernel
theorem dX4_censor_82 : decode cX4_censor 82 = .ok (.lconst 0, 1) := by decide +kernel
theorem dX4_censor_83 : decode cX4_censor 83 = .ok (.lstore 6, 2) := by decide +kernel
theorem dX4_censor_85 : decode cX4_censor 85 = .ok (.lconst 0, 1) := by decide +kernel
theorem dX4_censor_86 : decode cX4_censor 86 = .ok (.lstore 8, 2) := by decide +kernel
theorem dX4_censor_88 : decode cX4_censor 88 = .ok (.iconst 0, 1) := by decide +kernel
theorem dX4_censor_89 : decode cX4_censor 89 = .ok (.istore 10, 2) := by decide +kernel
theorem dX4_censor_91 : decode cX4_censor 91 = .ok (.iload 10, 2) := by decide +kernel
theorem dX4_censor_93 : decode cX4_censor 93 = .ok (.iconst 1, 1) := by decide +kernel
theorem dX4_censor_94 : decode cX4_censor 94 = .ok (.iload_n 2, 1) := by decide +kernel
theorem dX4_censor_95 : decode cX4_censor 95 = .ok (.ishl, 1) := by decide +kernel
theorem dX4_censor_96 : decode cX4_censor 96 = .ok (.if_icmp .ge 49, 3) := by decide +kernel
theorem dX4_censor_99 : decode cX4_censor 99 = .ok (.iload_n 2, 1) := by decide +kernel
theorem dX4_censor_100 : decode cX4_censor 100 = .ok (.iload 10, 2) := by decide +kernel
theorem dX4_censor_102 : decode cX4_censor 102 = .ok (.invokestatic 210, 3) := by decide +kernel
theorem dX4_censor_105 : decode cX4_censor 105 = .ok (.isub, 1) := by decide +kernel
theorem dX4_censor_106 : decode cX4_censor 106 = .ok (.iload_n 3, 1) := by decide +kernel
theorem dX4_censor_107 : decode cX4_censor 107 = .ok (.invokestatic 240, 3) := by decide +kernel
theorem dX4_censor_110 : decode cX4_censor 110 = .ok (.lstore 11, 2) := by decide +kernel
theorem dX4_censor_112 : decode cX4_censor 112 = .ok (.lload 8, 2) := by decide +kernel
theorem dX4_censor_114 : decode cX4_censor 114 = .ok (.lload 11, 2) := by decide +kernel
theorem dX4_censor_116 : decode cX4_censor 116 = .ok (.ladd, 1) := by decide +kernel
theorem dX4_censor_117 : decode cX4_censor 117 = .ok (.lstore 8, 2) := by decide +kernel
theorem dX4_censor_119 : decode cX4_censor 119 = .ok (.aload_n 0, 1) := by decide +kernel
theorem dX4_censor_120 : decode cX4_censor 120 = .ok (.iload_n 1, 1) := by decide +kernel
theorem dX4_censor_121 : decode cX4_censor 121 = .ok (.iload_n 2, 1) := by decide +kernel
theorem dX4_censor_122 : decode cX4_censor 122 = .ok (.iload 10, 2) := by decide +kernel
theorem dX4_censor_124 : decode cX4_censor 124 = .ok (.invokevirtual 244, 3) := by decide +kernel
theorem dX4_censor_127 : decode cX4_censor 127 = .ok (.iload 4, 2) := by decide +kernel
theorem dX4_censor_129 : decode cX4_censor 129 = .ok (.if_icmp .lt 10, 3) := by decide +kernel
theorem dX4_censor_132 : decode cX4_censor 132 = .ok (.lload 6, 2) := by decide +kernel
theorem dX4_censor_134 : decode cX4_censor 134 = .ok (.lload 11, 2) := by decide +kernel
theorem dX4_censor_136 : decode cX4_censor 136 = .ok (.ladd, 1) := by decide +kernel
theorem dX4_censor_137 : decode cX4_censor 137 = .ok (.lstore 6, 2) := by decide +kernel
theorem dX4_censor_139 : decode cX4_censor 139 = .ok (.iinc 10 1, 3) := by decide +kernel
theorem dX4_censor_142 : decode cX4_censor 142 = .ok (.goto (-51), 3) := by decide +kernel
theorem dX4_censor_145 : decode cX4_censor 145 = .ok (.lload 6, 2) := by decide +kernel
theorem dX4_censor_147 : decode cX4_censor 147 = .ok (.lload 8, 2) := by decide +kernel
theorem dX4_censor_149 : decode cX4_censor 149 = .ok (.iload 5, 2) := by decide +kernel
theorem dX4_censor_151 : decode cX4_censor 151 = .ok (.invokestatic 247, 3) := by decide +kernel
theorem dX4_censor_154 : decode cX4_censor 154 = .ok (.lreturn, 1) := by decide +kernel
theorem dX4_weightOfFreeYears_0 : decode cX4_weightOfFreeYears 0 = .ok (.lconst 1, 1) := by decide +kernel
theorem dX4_weightOfFreeYears_1 : decode cX4_weightOfFreeYears 1 = .ok (.lstore_n 2, 1) := by decide +kernel
theorem dX4_weightOfFreeYears_2 : decode cX4_weightOfFreeYears 2 = .ok (.iconst 0, 1) := by decide +kernel
theorem dX4_weightOfFreeYears_3 : decode cX4_weightOfFreeYears 3 = .ok (.istore 4, 2) := by decide +kernel
theorem dX4_weightOfFreeYears_5 : decode cX4_weightOfFreeYears 5 = .ok (.iload 4, 2) := by decide +kernel
theorem dX4_weightOfFreeYears_7 : decode cX4_weightOfFreeYears 7 = .ok (.iload_n 0, 1) := by decide +kernel
theorem dX4_weightOfFreeYears_8 : decode cX4_weightOfFreeYears 8 = .ok (.if_icmp .ge 23, 3) := by decide +kernel
theorem dX4_weightOfFreeYears_11 : decode cX4_weightOfFreeYears 11 = .ok (.iload 4, 2) := by decide +kernel
theorem dX4_weightOfFreeYears_13 : decode cX4_weightOfFreeYears 13 = .ok (.bipush 7, 2) := by decide +kernel
theorem dX4_weightOfFreeYears_15 : decode cX4_weightOfFreeYears 15 = .ok (.if_icmp .ge 16, 3) := by decide +kernel
theorem dX4_weightOfFreeYears_18 : decode cX4_weightOfFreeYears 18 = .ok (.lload_n 2, 1) := by decide +kernel
theorem dX4_weightOfFreeYears_19 : decode cX4_weightOfFreeYears 19 = .ok (.iload_n 1, 1) := by decide +kernel
theorem dX4_weightOfFreeYears_20 : decode cX4_weightOfFreeYears 20 = .ok (.iconst 1, 1) := by decide +kernel
theorem dX4_weightOfFreeYears_21 : decode cX4_weightOfFreeYears 21 = .ok (.isub, 1) := by decide +kernel
theorem dX4_weightOfFreeYears_22 : decode cX4_weightOfFreeYears 22 = .ok (.i2l, 1) := by decide +kernel
theorem dX4_weightOfFreeYears_23 : decode cX4_weightOfFreeYears 23 = .ok (.lmul, 1) := by decide +kernel
theorem dX4_weightOfFreeYears_24 : decode cX4_weightOfFreeYears 24 = .ok (.lstore_n 2, 1) := by decide +kernel
theorem dX4_weightOfFreeYears_25 : decode cX4_weightOfFreeYears 25 = .ok (.iinc 4 1, 3) := by decide +kernel
theorem dX4_weightOfFreeYears_28 : decode cX4_weightOfFreeYears 28 = .ok (.goto (-23), 3) := by decide +kernel
theorem dX4_weightOfFreeYears_31 : decode cX4_weightOfFreeYears 31 = .ok (.lload_n 2, 1) := by decide +kernel
theorem dX4_weightOfFreeYears_32 : decode cX4_weightOfFreeYears 32 = .ok (.lreturn, 1) := by decide +kernel
theorem dX4_fameUnderCensor_0 : decode cX4_fameUnderCensor 0 = .ok (.aload_n 0, 1) := by decide +kernel
theorem dX4_fameUnderCensor_1 : decode cX4_fameUnderCensor 1 = .ok (.getfield 16, 3) := by decide +kernel
theorem dX4_fameUnderCensor_4 : decode cX4_fameUnderCensor 4 = .ok (.aload_n 0, 1) := by decide +kernel
theorem dX4_fameUnderCensor_5 : decode cX4_fameUnderCensor 5 = .ok (.getfield 10, 3) := by decide +kernel
theorem dX4_fameUnderCensor_8 : decode cX4_fameUnderCensor 8 = .ok (.invokevirtual 82, 3) := by decide +kernel
theorem dX4_fameUnderCensor_11 : decode cX4_fameUnderCensor 11 = .ok (.iconst 0, 1) := by decide +kernel
theorem dX4_fameUnderCensor_12 : decode cX4_fameUnderCensor 12 = .ok (.istore 4, 2) := by decide +kernel
theorem dX4_fameUnderCensor_14 : decode cX4_fameUnderCensor 14 = .ok (.iload 4, 2) := by decide +kernel
theorem dX4_fameUnderCensor_16 : decode cX4_fameUnderCensor 16 = .ok (.iload_n 2, 1) := by decide +kernel
theorem dX4_fameUnderCensor_17 : decode cX4_fameUnderCensor 17 = .ok (.if_icmp .ge 50, 3) := by decide +kernel
theorem dX4_fameUnderCensor_20 : decode cX4_fameUnderCensor 20 = .ok (.iload 4, 2) := by decide +kernel
theorem dX4_fameUnderCensor_22 : decode cX4_fameUnderCensor 22 = .ok (.bipush 7, 2) := by decide +kernel
theorem dX4_fameUnderCensor_24 : decode cX4_fameUnderCensor 24 = .ok (.if_icmp .ge 43, 3) := by decide +kernel
theorem dX4_fameUnderCensor_27 : decode cX4_fameUnderCensor 27 = .ok (.iload_n 3, 1) := by decide +kernel
theorem dX4_fameUnderCensor_28 : decode cX4_fameUnderCensor 28 = .ok (.iload 4, 2) := by decide +kernel
theorem dX4_fameUnderCensor_30 : decode cX4_fameUnderCensor 30 = .ok (.ishr, 1) := by decide +kernel
theorem dX4_fameUnderCensor_31 : decode cX4_fameUnderCensor 31 = .ok (.iconst 1, 1) := by decide +kernel
theorem dX4_fameUnderCensor_32 : decode cX4_fameUnderCensor 32 = .ok (.iand, 1) := by decide +kernel
theorem dX4_fameUnderCensor_33 : decode cX4_fameUnderCensor 33 = .ok (.iconst 1, 1) := by decide +kernel
theorem dX4_fameUnderCensor_34 : decode cX4_fameUnderCensor 34 = .ok (.if_icmp .ne 19, 3) := by decide +kernel
theorem dX4_fameUnderCensor_37 : decode cX4_fameUnderCensor 37 = .ok (.aload_n 0, 1) := by decide +kernel
theorem dX4_fameUnderCensor_38 : decode cX4_fameUnderCensor 38 = .ok (.getfield 16, 3) := by decide +kernel
theorem dX4_fameUnderCensor_41 : decode cX4_fameUnderCensor 41 = .ok (.dup, 1) := by decide +kernel
theorem dX4_fameUnderCensor_42 : decode cX4_fameUnderCensor 42 = .ok (.getfield 188, 3) := by decide +kernel
theorem dX4_fameUnderCensor_45 : decode cX4_fameUnderCensor 45 = .ok (.iconst 1, 1) := by decide +kernel
theorem dX4_fameUnderCensor_46 : decode cX4_fameUnderCensor 46 = .ok (.iadd, 1) := by decide +kernel
theorem dX4_fameUnderCensor_47 : decode cX4_fameUnderCensor 47 = .ok (.putfield 188, 3) := by decide +kernel
theorem dX4_fameUnderCensor_50 : decode cX4_fameUnderCensor 50 = .ok (.goto 11, 3) := by decide +kernel
theorem dX4_fameUnderCensor_53 : decode cX4_fameUnderCensor 53 = .ok (.aload_n 0, 1) := by decide +kernel
theorem dX4_fameUnderCensor_54 : decode cX4_fameUnderCensor 54 = .ok (.getfield 16, 3) := by decide +kernel
theorem dX4_fameUnderCensor_57 : decode cX4_fameUnderCensor 57 = .ok (.iconst 1, 1) := by decide +kernel
theorem dX4_fameUnderCensor_58 : decode cX4_fameUnderCensor 58 = .ok (.invokevirtual 142, 3) := by decide +kernel
theorem dX4_fameUnderCensor_61 : decode cX4_fameUnderCensor 61 = .ok (.iinc 4 1, 3) := by decide +kernel
theorem dX4_fameUnderCensor_64 : decode cX4_fameUnderCensor 64 = .ok (.goto (-50), 3) := by decide +kernel
theorem dX4_fameUnderCensor_67 : decode cX4_fameUnderCensor 67 = .ok (.aload_n 0, 1) := by decide +kernel
theorem dX4_fameUnderCensor_68 : decode cX4_fameUnderCensor 68 = .ok (.getfield 16, 3) := by decide +kernel
theorem dX4_fameUnderCensor_71 : decode cX4_fameUnderCensor 71 = .ok (.getfield 139, 3) := by decide +kernel
theorem dX4_fameUnderCensor_74 : decode cX4_fameUnderCensor 74 = .ok (.iload_n 1, 1) := by decide +kernel
theorem dX4_fameUnderCensor_75 : decode cX4_fameUnderCensor 75 = .ok (.invokevirtual 105, 3) := by decide +kernel
theorem dX4_fameUnderCensor_78 : decode cX4_fameUnderCensor 78 = .ok (.ireturn, 1) := by decide +kernel
theorem dX4_mean_0 : decode cX4_mean 0 = .ok (.iload_n 1, 1) := by decide +kernel
theorem dX4_mean_1 : decode cX4_mean 1 = .ok (.ifCond .eq 15, 3) := by decide +kernel
theorem dX4_mean_4 : decode cX4_mean 4 = .ok (.iload_n 1, 1) := by decide +kernel
theorem dX4_mean_5 : decode cX4_mean 5 = .ok (.iconst 1, 1) := by decide +kernel
theorem dX4_mean_6 : decode cX4_mean 6 = .ok (.if_icmp .eq 10, 3) := by decide +kernel
theorem dX4_mean_9 : decode cX4_mean 9 = .ok (.aload_n 0, 1) := by decide +kernel
theorem dX4_mean_10 : decode cX4_mean 10 = .ok (.bipush (-2), 2) := by decide +kernel
theorem dX4_mean_12 : decode cX4_mean 12 = .ok (.invokevirtual 236, 3) := by decide +kernel
theorem dX4_mean_15 : decode cX4_mean 15 = .ok (.lreturn, 1) := by decide +kernel
theorem dX4_mean_16 : decode cX4_mean 16 = .ok (.aload_n 0, 1) := by decide +kernel
theorem dX4_mean_17 : decode cX4_mean 17 = .ok (.getfield 10, 3) := by decide +kernel
theorem dX4_mean_20 : decode cX4_mean 20 = .ok (.getfield 139, 3) := by decide +kernel
theorem dX4_mean_23 : decode cX4_mean 23 = .ok (.aload_n 0, 1) := by decide +kernel
theorem dX4_mean_24 : decode cX4_mean 24 = .ok (.getfield 10, 3) := by decide +kernel
theorem dX4_mean_27 : decode cX4_mean 27 = .ok (.getfield 108, 3) := by decide +kernel
theorem dX4_mean_30 : decode cX4_mean 30 = .ok (.invokevirtual 185, 3) := by decide +kernel
theorem dX4_mean_33 : decode cX4_mean 33 = .ok (.i2l, 1) := by decide +kernel
theorem dX4_mean_34 : decode cX4_mean 34 = .ok (.aload_n 0, 1) := by decide +kernel
theorem dX4_mean_35 : decode cX4_mean 35 = .ok (.getfield 10, 3) := by decide +kernel
theorem dX4_mean_38 : decode cX4_mean 38 = .ok (.getfield 108, 3) := by decide +kernel
theorem dX4_mean_41 : decode cX4_mean 41 = .ok (.i2l, 1) := by decide +kernel
theorem dX4_mean_42 : decode cX4_mean 42 = .ok (.iload_n 1, 1) := by decide +kernel
theorem dX4_mean_43 : decode cX4_mean 43 = .ok (.invokestatic 247, 3) := by decide +kernel
theorem dX4_mean_46 : decode cX4_mean 46 = .ok (.lreturn, 1) := by decide +kernel
theorem dX4_inLeastTerms_0 : decode cX4_inLeastTerms 0 = .ok (.lload_n 0, 1) := by decide +kernel
theorem dX4_inLeastTerms_1 : decode cX4_inLeastTerms 1 = .ok (.lload_n 2, 1) := by decide +kernel
theorem dX4_inLeastTerms_2 : decode cX4_inLeastTerms 2 = .ok (.invokestatic 251, 3) := by decide +kernel
theorem dX4_inLeastTerms_5 : decode cX4_inLeastTerms 5 = .ok (.lstore 5, 2) := by decide +kernel
theorem dX4_inLeastTerms_7 : decode cX4_inLeastTerms 7 = .ok (.lload 5, 2) := by decide +kernel
theorem dX4_inLeastTerms_9 : decode cX4_inLeastTerms 9 = .ok (.lconst 0, 1) := by decide +kernel
theorem dX4_inLeastTerms_10 : decode cX4_inLeastTerms 10 = .ok (.lcmp, 1) := by decide +kernel
theorem dX4_inLeastTerms_11 : decode cX4_inLeastTerms 11 = .ok (.ifCond .ne 7, 3) := by decide +kernel
theorem dX4_inLeastTerms_14 : decode cX4_inLeastTerms 14 = .ok (.iload 4, 2) := by decide +kernel
theorem dX4_inLeastTerms_16 : decode cX4_inLeastTerms 16 = .ok (.i2l, 1) := by decide +kernel
theorem dX4_inLeastTerms_17 : decode cX4_inLeastTerms 17 = .ok (.lreturn, 1) := by decide +kernel
theorem dX4_inLeastTerms_18 : decode cX4_inLeastTerms 18 = .ok (.iload 4, 2) := by decide +kernel
theorem dX4_inLeastTerms_20 : decode cX4_inLeastTerms 20 = .ok (.ifCond .ne 7, 3) := by decide +kernel
theorem dX4_inLeastTerms_23 : decode cX4_inLeastTerms 23 = .ok (.lload_n 0, 1) := by decide +kernel
theorem dX4_inLeastTerms_24 : decode cX4_inLeastTerms 24 = .ok (.goto 4, 3) := by decide +kernel
theorem dX4_inLeastTerms_27 : decode cX4_inLeastTerms 27 = .ok (.lload_n 2, 1) := by decide +kernel
theorem dX4_inLeastTerms_28 : decode cX4_inLeastTerms 28 = .ok (.lload 5, 2) := by decide +kernel
theorem dX4_inLeastTerms_30 : decode cX4_inLeastTerms 30 = .ok (.ldiv, 1) := by decide +kernel
theorem dX4_inLeastTerms_31 : decode cX4_inLeastTerms 31 = .ok (.lreturn, 1) := by decide +kernel
theorem dX4_commonDivisor_0 : decode cX4_commonDivisor 0 = .ok (.lload_n 0, 1) := by decide +kernel
theorem dX4_commonDivisor_1 : decode cX4_commonDivisor 1 = .ok (.lstore 4, 2) := by decide +kernel
theorem dX4_commonDivisor_3 : decode cX4_commonDivisor 3 = .ok (.lload_n 2, 1) := by decide +kernel
theorem dX4_commonDivisor_4 : decode cX4_commonDivisor 4 = .ok (.lstore 6, 2) := by decide +kernel
theorem dX4_commonDivisor_6 : decode cX4_commonDivisor 6 = .ok (.iconst 0, 1) := by decide +kernel
theorem dX4_commonDivisor_7 : decode cX4_commonDivisor 7 = .ok (.istore 8, 2) := by decide +kernel
theorem dX4_commonDivisor_9 : decode cX4_commonDivisor 9 = .ok (.iload 8, 2) := by decide +kernel
theorem dX4_commonDivisor_11 : decode cX4_commonDivisor 11 = .ok (.bipush 100, 2) := by decide +kernel
theorem dX4_commonDivisor_13 : decode cX4_commonDivisor 13 = .ok (.if_icmp .ge 31, 3) := by decide +kernel
theorem dX4_commonDivisor_16 : decode cX4_commonDivisor 16 = .ok (.lload 6, 2) := by decide +kernel
theorem dX4_commonDivisor_18 : decode cX4_commonDivisor 18 = .ok (.lconst 0, 1) := by decide +kernel
theorem dX4_commonDivisor_19 : decode cX4_commonDivisor 19 = .ok (.lcmp, 1) := by decide +kernel
theorem dX4_commonDivisor_20 : decode cX4_commonDivisor 20 = .ok (.ifCond .eq 24, 3) := by decide +kernel
theorem dX4_commonDivisor_23 : decode cX4_commonDivisor 23 = .ok (.lload 4, 2) := by decide +kernel
theorem dX4_commonDivisor_25 : decode cX4_commonDivisor 25 = .ok (.lload 6, 2) := by decide +kernel
theorem dX4_commonDivisor_27 : decode cX4_commonDivisor 27 = .ok (.lrem, 1) := by decide +kernel
theorem dX4_commonDivisor_28 : decode cX4_commonDivisor 28 = .ok (.lstore 9, 2) := by decide +kernel
theorem dX4_commonDivisor_30 : decode cX4_commonDivisor 30 = .ok (.lload 6, 2) := by decide +kernel
theorem dX4_commonDivisor_32 : decode cX4_commonDivisor 32 = .ok (.lstore 4, 2) := by decide +kernel
theorem dX4_commonDivisor_34 : decode cX4_commonDivisor 34 = .ok (.lload 9, 2) := by decide +kernel
theorem dX4_commonDivisor_36 : decode cX4_commonDivisor 36 = .ok (.lstore 6, 2) := by decide +kernel
theorem dX4_commonDivisor_38 : decode cX4_commonDivisor 38 = .ok (.iinc 8 1, 3) := by decide +kernel
theorem dX4_commonDivisor_41 : decode cX4_commonDivisor 41 = .ok (.goto (-32), 3) := by decide +kernel
theorem dX4_commonDivisor_44 : decode cX4_commonDivisor 44 = .ok (.lload 4, 2) := by decide +kernel
theorem dX4_commonDivisor_46 : decode cX4_commonDivisor 46 = .ok (.lreturn, 1) := by decide +kernel
theorem dX4_row_0 : decode cX4_row 0 = .ok (.iload_n 1, 1) := by decide +kernel
theorem dX4_row_1 : decode cX4_row 1 = .ok (.ifCond .ge 10, 3) := by decide +kernel
theorem dX4_row_4 : decode cX4_row 4 = .ok (.aload_n 0, 1) := by decide +kernel
theorem dX4_row_5 : decode cX4_row 5 = .ok (.bipush (-4), 2) := by decide +kernel
theorem dX4_row_7 : decode cX4_row 7 = .ok (.invokevirtual 58, 3) := by decide +kernel
theorem dX4_row_10 : decode cX4_row 10 = .ok (.ireturn, 1) := by decide +kernel
theorem dX4_row_11 : decode cX4_row 11 = .ok (.iload_n 1, 1) := by decide +kernel
theorem dX4_row_12 : decode cX4_row 12 = .ok (.bipush 99, 2) := by decide +kernel
theorem dX4_row_14 : decode cX4_row 14 = .ok (.if_icmp .gt 15, 3) := by decide +kernel
theorem dX4_row_17 : decode cX4_row 17 = .ok (.aload_n 0, 1) := by decide +kernel
theorem dX4_row_18 : decode cX4_row 18 = .ok (.getfield 38, 3) := by decide +kernel
theorem dX4_row_21 : decode cX4_row 21 = .ok (.getfield 65, 3) := by decide +kernel
theorem dX4_row_24 : decode cX4_row 24 = .ok (.bipush 16, 2) := by decide +kernel
theorem dX4_row_26 : decode cX4_row 26 = .ok (.if_icmp .lt 10, 3) := by decide +kernel
theorem dX4_row_29 : decode cX4_row 29 = .ok (.aload_n 0, 1) := by decide +kernel
theorem dX4_row_30 : decode cX4_row 30 = .ok (.bipush (-6), 2) := by decide +kernel
theorem dX4_row_32 : decode cX4_row 32 = .ok (.invokevirtual 58, 3) := by decide +kernel
theorem dX4_row_35 : decode cX4_row 35 = .ok (.ireturn, 1) := by decide +kernel
theorem dX4_row_36 : decode cX4_row 36 = .ok (.aload_n 0, 1) := by decide +kernel
theorem dX4_row_37 : decode cX4_row 37 = .ok (.getfield 38, 3) := by decide +kernel
theorem dX4_row_40 : decode cX4_row 40 = .ok (.iload_n 1, 1) := by decide +kernel
theorem dX4_row_41 : decode cX4_row 41 = .ok (.invokevirtual 69, 3) := by decide +kernel
theorem dX4_row_44 : decode cX4_row 44 = .ok (.aload_n 0, 1) := by decide +kernel
theorem dX4_row_45 : decode cX4_row 45 = .ok (.getfield 38, 3) := by decide +kernel
theorem dX4_row_48 : decode cX4_row 48 = .ok (.getfield 65, 3) := by decide +kernel
theorem dX4_row_51 : decode cX4_row 51 = .ok (.ireturn, 1) := by decide +kernel
theorem dX4_clear_0 : decode cX4_clear 0 = .ok (.aload_n 0, 1) := by decide +kernel
theorem dX4_clear_1 : decode cX4_clear 1 = .ok (.getfield 38, 3) := by decide +kernel
theorem dX4_clear_4 : decode cX4_clear 4 = .ok (.getfield 65, 3) := by decide +kernel
theorem dX4_clear_7 : decode cX4_clear 7 = .ok (.istore_n 1, 1) := by decide +kernel
theorem dX4_clear_8 : decode cX4_clear 8 = .ok (.aload_n 0, 1) := by decide +kernel
theorem dX4_clear_9 : decode cX4_clear 9 = .ok (.getfield 38, 3) := by decide +kernel
theorem dX4_clear_12 : decode cX4_clear 12 = .ok (.invokevirtual 79, 3) := by decide +kernel
theorem dX4_clear_15 : decode cX4_clear 15 = .ok (.iload_n 1, 1) := by decide +kernel
theorem dX4_clear_16 : decode cX4_clear 16 = .ok (.ireturn, 1) := by decide +kernel
theorem dX4_whoEnded_0 : decode cX4_whoEnded 0 = .ok (.aload_n 0, 1) := by decide +kernel
theorem dX4_whoEnded_1 : decode cX4_whoEnded 1 = .ok (.getfield 10, 3) := by decide +kernel
theorem dX4_whoEnded_4 : decode cX4_whoEnded 4 = .ok (.iload_n 1, 1) := by decide +kernel
theorem dX4_whoEnded_5 : decode cX4_whoEnded 5 = .ok (.invokevirtual 116, 3) := by decide +kernel
theorem dX4_whoEnded_8 : decode cX4_whoEnded 8 = .ok (.ifCond .ne 9, 3) := by decide +kernel
theorem dX4_whoEnded_11 : decode cX4_whoEnded 11 = .ok (.aload_n 0, 1) := by decide +kernel
theorem dX4_whoEnded_12 : decode cX4_whoEnded 12 = .ok (.iconst (-1), 1) := by decide +kernel
theorem dX4_whoEnded_13 : decode cX4_whoEnded 13 = .ok (.invokevirtual 58, 3) := by decide +kernel
theorem dX4_whoEnded_16 : decode cX4_whoEnded 16 = .ok (.ireturn, 1) := by decide +kernel
theorem dX4_whoEnded_17 : decode cX4_whoEnded 17 = .ok (.iconst 0, 1) := by decide +kernel
theorem dX4_whoEnded_18 : decode cX4_whoEnded 18 = .ok (.istore_n 2, 1) := by decide +kernel
theorem dX4_whoEnded_19 : decode cX4_whoEnded 19 = .ok (.iconst 0, 1) := by decide +kernel
theorem dX4_whoEnded_20 : decode cX4_whoEnded 20 = .ok (.istore_n 3, 1) := by decide +kernel
theorem dX4_whoEnded_21 : decode cX4_whoEnded 21 = .ok (.iload_n 3, 1) := by decide +kernel
theorem dX4_whoEnded_22 : decode cX4_whoEnded 22 = .ok (.aload_n 0, 1) := by decide +kernel
theorem dX4_whoEnded_23 : decode cX4_whoEnded 23 = .ok (.getfield 10, 3) := by decide +kernel
theorem dX4_whoEnded_26 : decode cX4_whoEnded 26 = .ok (.getfield 108, 3) := by decide +kernel
theorem dX4_whoEnded_29 : decode cX4_whoEnded 29 = .ok (.if_icmp .ge 29, 3) := by decide +kernel
theorem dX4_whoEnded_32 : decode cX4_whoEnded 32 = .ok (.iload_n 3, 1) := by decide +kernel
theorem dX4_whoEnded_33 : decode cX4_whoEnded 33 = .ok (.iload_n 1, 1) := by decide +kernel
theorem dX4_whoEnded_34 : decode cX4_whoEnded 34 = .ok (.if_icmp .eq 18, 3) := by decide +kernel
theorem dX4_whoEnded_37 : decode cX4_whoEnded 37 = .ok (.aload_n 0, 1) := by decide +kernel
theorem dX4_whoEnded_38 : decode cX4_whoEnded 38 = .ok (.iload_n 1, 1) := by decide +kernel
theorem dX4_whoEnded_39 : decode cX4_whoEnded 39 = .ok (.iload_n 3, 1) := by decide +kernel
theorem dX4_whoEnded_40 : decode cX4_whoEnded 40 = .ok (.invokevirtual 255, 3) := by decide +kernel
theorem dX4_whoEnded_43 : decode cX4_whoEnded 43 = .ok (.ifCond .eq 9, 3) := by decide +kernel
theorem dX4_whoEnded_46 : decode cX4_whoEnded 46 = .ok (.iload_n 2, 1) := by decide +kernel
theorem dX4_whoEnded_47 : decode cX4_whoEnded 47 = .ok (.iconst 1, 1) := by decide +kernel
theorem dX4_whoEnded_48 : decode cX4_whoEnded 48 = .ok (.iload_n 3, 1) := by decide +kernel
theorem dX4_whoEnded_49 : decode cX4_whoEnded 49 = .ok (.ishl, 1) := by decide +kernel
theorem dX4_whoEnded_50 : decode cX4_whoEnded 50 = .ok (.ior, 1) := by decide +kernel
theorem dX4_whoEnded_51 : decode cX4_whoEnded 51 = .ok (.istore_n 2, 1) := by decide +kernel
theorem dX4_whoEnded_52 : decode cX4_whoEnded 52 = .ok (.iinc 3 1, 3) := by decide +kernel
theorem dX4_whoEnded_55 : decode cX4_whoEnded 55 = .ok (.goto (-34), 3) := by decide +kernel
theorem dX4_whoEnded_58 : decode cX4_whoEnded 58 = .ok (.iload_n 2, 1) := by decide +kernel
theorem dX4_whoEnded_59 : decode cX4_whoEnded 59 = .ok (.ireturn, 1) := by decide +kernel
theorem dX4_wouldEndAsTold_0 : decode cX4_wouldEndAsTold 0 = .ok (.iconst 0, 1) := by decide +kernel
theorem dX4_wouldEndAsTold_1 : decode cX4_wouldEndAsTold 1 = .ok (.istore_n 3, 1) := by decide +kernel
theorem dX4_wouldEndAsTold_2 : decode cX4_wouldEndAsTold 2 = .ok (.iconst 2, 1) := by decide +kernel
theorem dX4_wouldEndAsTold_3 : decode cX4_wouldEndAsTold 3 = .ok (.iload_n 3, 1) := by decide +kernel
theorem dX4_wouldEndAsTold_4 : decode cX4_wouldEndAsTold 4 = .ok (.imul, 1) := by decide +kernel
theorem dX4_wouldEndAsTold_5 : decode cX4_wouldEndAsTold 5 = .ok (.iconst 1, 1) := by decide +kernel
theorem dX4_wouldEndAsTold_6 : decode cX4_wouldEndAsTold 6 = .ok (.iadd, 1) := by decide +kernel
theorem dX4_wouldEndAsTold_7 : decode cX4_wouldEndAsTold 7 = .ok (.aload_n 0, 1) := by decide +kernel
theorem dX4_wouldEndAsTold_8 : decode cX4_wouldEndAsTold 8 = .ok (.getfield 38, 3) := by decide +kernel
theorem dX4_wouldEndAsTold_11 : decode cX4_wouldEndAsTold 11 = .ok (.getfield 65, 3) := by decide +kernel
theorem dX4_wouldEndAsTold_14 : decode cX4_wouldEndAsTold 14 = .ok (.if_icmp .ge 86, 3) := by decide +kernel
theorem dX4_wouldEndAsTold_17 : decode cX4_wouldEndAsTold 17 = .ok (.iload_n 3, 1) := by decide +kernel
theorem dX4_wouldEndAsTold_18 : decode cX4_wouldEndAsTold 18 = .ok (.bipush 16, 2) := by decide +kernel
theorem dX4_wouldEndAsTold_20 : decode cX4_wouldEndAsTold 20 = .ok (.if_icmp .ge 80, 3) := by decide +kernel
theorem dX4_wouldEndAsTold_23 : decode cX4_wouldEndAsTold 23 = .ok (.aload_n 0, 1) := by decide +kernel
theorem dX4_wouldEndAsTold_24 : decode cX4_wouldEndAsTold 24 = .ok (.getfield 10, 3) := by decide +kernel
theorem dX4_wouldEndAsTold_27 : decode cX4_wouldEndAsTold 27 = .ok (.getfield 133, 3) := by decide +kernel
theorem dX4_wouldEndAsTold_30 : decode cX4_wouldEndAsTold 30 = .ok (.iload_n 1, 1) := by decide +kernel
theorem dX4_wouldEndAsTold_31 : decode cX4_wouldEndAsTold 31 = .ok (.invokevirtual 105, 3) := by decide +kernel
theorem dX4_wouldEndAsTold_34 : decode cX4_wouldEndAsTold 34 = .ok (.aload_n 0, 1) := by decide +kernel
theorem dX4_wouldEndAsTold_35 : decode cX4_wouldEndAsTold 35 = .ok (.getfield 10, 3) := by decide +kernel
theorem dX4_wouldEndAsTold_38 : decode cX4_wouldEndAsTold 38 = .ok (.getfield 188, 3) := by decide +kernel
theorem dX4_wouldEndAsTold_41 : decode cX4_wouldEndAsTold 41 = .ok (.iload_n 3, 1) := by decide +kernel
theorem dX4_wouldEndAsTold_42 : decode cX4_wouldEndAsTold 42 = .ok (.iadd, 1) := by decide +kernel
theorem dX4_wouldEndAsTold_43 : decode cX4_wouldEndAsTold 43 = .ok (.invokestatic 191, 3) := by decide +kernel
theorem dX4_wouldEndAsTold_46 : decode cX4_wouldEndAsTold 46 = .ok (.istore 4, 2) := by decide +kernel
theorem dX4_wouldEndAsTold_48 : decode cX4_wouldEndAsTold 48 = .ok (.aload_n 0, 1) := by decide +kernel
theorem dX4_wouldEndAsTold_49 : decode cX4_wouldEndAsTold 49 = .ok (.getfield 10, 3) := by decide +kernel
theorem dX4_wouldEndAsTold_52 : decode cX4_wouldEndAsTold 52 = .ok (.iload_n 2, 1) := by decide +kernel
theorem dX4_wouldEndAsTold_53 : decode cX4_wouldEndAsTold 53 = .ok (.iload 4, 2) := by decide +kernel
theorem dX4_wouldEndAsTold_55 : decode cX4_wouldEndAsTold 55 = .ok (.invokevirtual 258, 3) := by decide +kernel
theorem dX4_wouldEndAsTold_58 : decode cX4_wouldEndAsTold 58 = .ok (.istore 5, 2) := by decide +kernel
theorem dX4_wouldEndAsTold_60 : decode cX4_wouldEndAsTold 60 = .ok (.aload_n 0, 1) := by decide +kernel
theorem dX4_wouldEndAsTold_61 : decode cX4_wouldEndAsTold 61 = .ok (.getfield 38, 3) := by decide +kernel
theorem dX4_wouldEndAsTold_64 : decode cX4_wouldEndAsTold 64 = .ok (.iconst 2, 1) := by decide +kernel
theorem dX4_wouldEndAsTold_65 : decode cX4_wouldEndAsTold 65 = .ok (.iload_n 3, 1) := by decide +kernel
theorem dX4_wouldEndAsTold_66 : decode cX4_wouldEndAsTold 66 = .ok (.imul, 1) := by decide +kernel
theorem dX4_wouldEndAsTold_67 : decode cX4_wouldEndAsTold 67 = .ok (.invokevirtual 105, 3) := by decide +kernel
theorem dX4_wouldEndAsTold_70 : decode cX4_wouldEndAsTold 70 = .ok (.iload 4, 2) := by decide +kernel
theorem dX4_wouldEndAsTold_72 : decode cX4_wouldEndAsTold 72 = .ok (.if_icmp .ne 20, 3) := by decide +kernel
theorem dX4_wouldEndAsTold_75 : decode cX4_wouldEndAsTold 75 = .ok (.aload_n 0, 1) := by decide +kernel
theorem dX4_wouldEndAsTold_76 : decode cX4_wouldEndAsTold 76 = .ok (.getfield 38, 3) := by decide +kernel
theorem dX4_wouldEndAsTold_79 : decode cX4_wouldEndAsTold 79 = .ok (.iconst 2, 1) := by decide +kernel
theorem dX4_wouldEndAsTold_80 : decode cX4_wouldEndAsTold 80 = .ok (.iload_n 3, 1) := by decide +kernel
theorem dX4_wouldEndAsTold_81 : decode cX4_wouldEndAsTold 81 = .ok (.imul, 1) := by decide +kernel
theorem dX4_wouldEndAsTold_82 : decode cX4_wouldEndAsTold 82 = .ok (.iconst 1, 1) := by decide +kernel
theorem dX4_wouldEndAsTold_83 : decode cX4_wouldEndAsTold 83 = .ok (.iadd, 1) := by decide +kernel
theorem dX4_wouldEndAsTold_84 : decode cX4_wouldEndAsTold 84 = .ok (.invokevirtual 105, 3) := by decide +kernel
theorem dX4_wouldEndAsTold_87 : decode cX4_wouldEndAsTold 87 = .ok (.iload 5, 2) := by decide +kernel
theorem dX4_wouldEndAsTold_89 : decode cX4_wouldEndAsTold 89 = .ok (.if_icmp .eq 5, 3) := by decide +kernel
theorem dX4_wouldEndAsTold_92 : decode cX4_wouldEndAsTold 92 = .ok (.iconst 0, 1) := by decide +kernel
theorem dX4_wouldEndAsTold_93 : decode cX4_wouldEndAsTold 93 = .ok (.ireturn, 1) := by decide +kernel
theorem dX4_wouldEndAsTold_94 : decode cX4_wouldEndAsTold 94 = .ok (.iinc 3 1, 3) := by decide +kernel
theorem dX4_wouldEndAsTold_97 : decode cX4_wouldEndAsTold 97 = .ok (.goto (-95), 3) := by decide +kernel
theorem dX4_wouldEndAsTold_100 : decode cX4_wouldEndAsTold 100 = .ok (.iconst 1, 1) := by decide +kernel
theorem dX4_wouldEndAsTold_101 : decode cX4_wouldEndAsTold 101 = .ok (.ireturn, 1) := by decide +kernel
theorem dX4_whatIs_0 : decode cX4_whatIs 0 = .ok (.aload_n 0, 1) := by decide +kernel
theorem dX4_whatIs_1 : decode cX4_whatIs 1 = .ok (.getfield 10, 3) := by decide +kernel
theorem dX4_whatIs_4 : decode cX4_whatIs 4 = .ok (.iload_n 1, 1) := by decide +kernel
theorem dX4_whatIs_5 : decode cX4_whatIs 5 = .ok (.invokevirtual 116, 3) := by decide +kernel
theorem dX4_whatIs_8 : decode cX4_whatIs 8 = .ok (.ifCond .ne 9, 3) := by decide +kernel
theorem dX4_whatIs_11 : decode cX4_whatIs 11 = .ok (.aload_n 0, 1) := by decide +kernel
theorem dX4_whatIs_12 : decode cX4_whatIs 12 = .ok (.iconst (-1), 1) := by decide +kernel
theorem dX4_whatIs_13 : decode cX4_whatIs 13 = .ok (.invokevirtual 58, 3) := by decide +kernel
theorem dX4_whatIs_16 : decode cX4_whatIs 16 = .ok (.ireturn, 1) := by decide +kernel
theorem dX4_whatIs_17 : decode cX4_whatIs 17 = .ok (.iload_n 2, 1) := by decide +kernel
theorem dX4_whatIs_18 : decode cX4_whatIs 18 = .ok (.ifCond .eq 15, 3) := by decide +kernel
theorem dX4_whatIs_21 : decode cX4_whatIs 21 = .ok (.iload_n 2, 1) := by decide +kernel
theorem dX4_whatIs_22 : decode cX4_whatIs 22 = .ok (.iconst 1, 1) := by decide +kernel
theorem dX4_whatIs_23 : decode cX4_whatIs 23 = .ok (.if_icmp .eq 10, 3) := by decide +kernel
theorem dX4_whatIs_26 : decode cX4_whatIs 26 = .ok (.aload_n 0, 1) := by decide +kernel
theorem dX4_whatIs_27 : decode cX4_whatIs 27 = .ok (.bipush (-2), 2) := by decide +kernel
theorem dX4_whatIs_29 : decode cX4_whatIs 29 = .ok (.invokevirtual 58, 3) := by decide +kernel
theorem dX4_whatIs_32 : decode cX4_whatIs 32 = .ok (.ireturn, 1) := by decide +kernel
theorem dX4_whatIs_33 : decode cX4_whatIs 33 = .ok (.aload_n 0, 1) := by decide +kernel
theorem dX4_whatIs_34 : decode cX4_whatIs 34 = .ok (.getfield 10, 3) := by decide +kernel
theorem dX4_whatIs_37 : decode cX4_whatIs 37 = .ok (.getfield 157, 3) := by decide +kernel
theorem dX4_whatIs_40 : decode cX4_whatIs 40 = .ok (.iload_n 1, 1) := by decide +kernel
theorem dX4_whatIs_41 : decode cX4_whatIs 41 = .ok (.invokevirtual 105, 3) := by decide +kernel
theorem dX4_whatIs_44 : decode cX4_whatIs 44 = .ok (.istore_n 3, 1) := by decide +kernel
theorem dX4_whatIs_45 : decode cX4_whatIs 45 = .ok (.iload_n 3, 1) := by decide +kernel
theorem dX4_whatIs_46 : decode cX4_whatIs 46 = .ok (.ifCond .ge 5, 3) := by decide +kernel
theorem dX4_whatIs_49 : decode cX4_whatIs 49 = .ok (.iconst 0, 1) := by decide +kernel
theorem dX4_whatIs_50 : decode cX4_whatIs 50 = .ok (.ireturn, 1) := by decide +kernel
theorem dX4_whatIs_51 : decode cX4_whatIs 51 = .ok (.iconst 0, 1) := by decide +kernel
theorem dX4_whatIs_52 : decode cX4_whatIs 52 = .ok (.istore 4, 2) := by decide +kernel
theorem dX4_whatIs_54 : decode cX4_whatIs 54 = .ok (.iload_n 2, 1) := by decide +kernel
theorem dX4_whatIs_55 : decode cX4_whatIs 55 = .ok (.ifCond .ne 8, 3) := by decide +kernel
theorem dX4_whatIs_58 : decode cX4_whatIs 58 = .ok (.bipush 6, 2) := by decide +kernel
theorem dX4_whatIs_60 : decode cX4_whatIs 60 = .ok (.goto 5, 3) := by decide +kernel
theorem dX4_whatIs_63 : decode cX4_whatIs 63 = .ok (.bipush 10, 2) := by decide +kernel
theorem dX4_whatIs_65 : decode cX4_whatIs 65 = .ok (.istore 5, 2) := by decide +kernel
theorem dX4_whatIs_67 : decode cX4_whatIs 67 = .ok (.iconst 0, 1) := by decide +kernel
theorem dX4_whatIs_68 : decode cX4_whatIs 68 = .ok (.istore 6, 2) := by decide +kernel
theorem dX4_whatIs_70 : decode cX4_whatIs 70 = .ok (.iload 6, 2) := by decide +kernel
theorem dX4_whatIs_72 : decode cX4_whatIs 72 = .ok (.iload 5, 2) := by decide +kernel
theorem dX4_whatIs_74 : decode cX4_whatIs 74 = .ok (.if_icmp .ge 70, 3) := by decide +kernel
theorem dX4_whatIs_77 : decode cX4_whatIs 77 = .ok (.aload_n 0, 1) := by decide +kernel
theorem dX4_whatIs_78 : decode cX4_whatIs 78 = .ok (.getfield 16, 3) := by decide +kernel
theorem dX4_whatIs_81 : decode cX4_whatIs 81 = .ok (.aload_n 0, 1) := by decide +kernel
theorem dX4_whatIs_82 : decode cX4_whatIs 82 = .ok (.getfield 10, 3) := by decide +kernel
theorem dX4_whatIs_85 : decode cX4_whatIs 85 = .ok (.invokevirtual 82, 3) := by decide +kernel
theorem dX4_whatIs_88 : decode cX4_whatIs 88 = .ok (.iload_n 2, 1) := by decide +kernel
theorem dX4_whatIs_89 : decode cX4_whatIs 89 = .ok (.ifCond .ne 19, 3) := by decide +kernel
theorem dX4_whatIs_92 : decode cX4_whatIs 92 = .ok (.aload_n 0, 1) := by decide +kernel
theorem dX4_whatIs_93 : decode cX4_whatIs 93 = .ok (.getfield 16, 3) := by decide +kernel
theorem dX4_whatIs_96 : decode cX4_whatIs 96 = .ok (.getfield 145, 3) := by decide +kernel
theorem dX4_whatIs_99 : decode cX4_whatIs 99 = .ok (.iload_n 3, 1) := by decide +kernel
theorem dX4_whatIs_100 : decode cX4_whatIs 100 = .ok (.iload 6, 2) := by decide +kernel
theorem dX4_whatIs_102 : decode cX4_whatIs 102 = .ok (.invokevirtual 136, 3) := by decide +kernel
theorem dX4_whatIs_105 : decode cX4_whatIs 105 = .ok (.goto 16, 3) := by decide +kernel
theorem dX4_whatIs_108 : decode cX4_whatIs 108 = .ok (.aload_n 0, 1) := by decide +kernel
theorem dX4_whatIs_109 : decode cX4_whatIs 109 = .ok (.getfield 16, 3) := by decide +kernel
theorem dX4_whatIs_112 : decode cX4_whatIs 112 = .ok (.getfield 148, 3) := by decide +kernel
theorem dX4_whatIs_115 : decode cX4_whatIs 115 = .ok (.iload_n 3, 1) := by decide +kernel
theorem dX4_whatIs_116 : decode cX4_whatIs 116 = .ok (.iload 6, 2) := by decide +kernel
theorem dX4_whatIs_118 : decode cX4_whatIs 118 = .ok (.invokevirtual 136, 3) := by decide +kernel
theorem dX4_whatIs_121 : decode cX4_whatIs 121 = .ok (.aload_n 0, 1) := by decide +kernel
theorem dX4_whatIs_122 : decode cX4_whatIs 122 = .ok (.iload_n 1, 1) := by decide +kernel
theorem dX4_whatIs_123 : decode cX4_whatIs 123 = .ok (.invokevirtual 261, 3) := by decide +kernel
theorem dX4_whatIs_126 : decode cX4_whatIs 126 = .ok (.ifCond .eq 12, 3) := by decide +kernel
theorem dX4_whatIs_129 : decode cX4_whatIs 129 = .ok (.iload 4, 2) := by decide +kernel
theorem dX4_whatIs_131 : decode cX4_whatIs 131 = .ok (.iconst 1, 1) := by decide +kernel
theorem dX4_whatIs_132 : decode cX4_whatIs 132 = .ok (.iload 6, 2) := by decide +kernel
theorem dX4_whatIs_134 : decode cX4_whatIs 134 = .ok (.ishl, 1) := by decide +kernel
theorem dX4_whatIs_135 : decode cX4_whatIs 135 = .ok (.ior, 1) := by decide +kernel
theorem dX4_whatIs_136 : decode cX4_whatIs 136 = .ok (.istore 4, 2) := by decide +kernel
theorem dX4_whatIs_138 : decode cX4_whatIs 138 = .ok (.iinc 6 1, 3) := by decide +kernel
theorem dX4_whatIs_141 : decode cX4_whatIs 141 = .ok (.goto (-71), 3) := by decide +kernel
theorem dX4_whatIs_144 : decode cX4_whatIs 144 = .ok (.iload 4, 2) := by decide +kernel
theorem dX4_whatIs_146 : decode cX4_whatIs 146 = .ok (.ireturn, 1) := by decide +kernel
theorem dX4_thoughtGoesAsTold_0 : decode cX4_thoughtGoesAsTold 0 = .ok (.iconst 0, 1) := by decide +kernel
theorem dX4_thoughtGoesAsTold_1 : decode cX4_thoughtGoesAsTold 1 = .ok (.istore_n 2, 1) := by decide +kernel
theorem dX4_thoughtGoesAsTold_2 : decode cX4_thoughtGoesAsTold 2 = .ok (.iload_n 2, 1) := by decide +kernel
theorem dX4_thoughtGoesAsTold_3 : decode cX4_thoughtGoesAsTold 3 = .ok (.aload_n 0, 1) := by decide +kernel
theorem dX4_thoughtGoesAsTold_4 : decode cX4_thoughtGoesAsTold 4 = .ok (.getfield 38, 3) := by decide +kernel
theorem dX4_thoughtGoesAsTold_7 : decode cX4_thoughtGoesAsTold 7 = .ok (.getfield 65, 3) := by decide +kernel
theorem dX4_thoughtGoesAsTold_10 : decode cX4_thoughtGoesAsTold 10 = .ok (.if_icmp .ge 47, 3) := by decide +kernel
theorem dX4_thoughtGoesAsTold_13 : decode cX4_thoughtGoesAsTold 13 = .ok (.iload_n 2, 1) := by decide +kernel
theorem dX4_thoughtGoesAsTold_14 : decode cX4_thoughtGoesAsTold 14 = .ok (.bipush 16, 2) := by decide +kernel
theorem dX4_thoughtGoesAsTold_16 : decode cX4_thoughtGoesAsTold 16 = .ok (.if_icmp .ge 41, 3) := by decide +kernel
theorem dX4_thoughtGoesAsTold_19 : decode cX4_thoughtGoesAsTold 19 = .ok (.aload_n 0, 1) := by decide +kernel
theorem dX4_thoughtGoesAsTold_20 : decode cX4_thoughtGoesAsTold 20 = .ok (.getfield 16, 3) := by decide +kernel
theorem dX4_thoughtGoesAsTold_23 : decode cX4_thoughtGoesAsTold 23 = .ok (.getfield 139, 3) := by decide +kernel
theorem dX4_thoughtGoesAsTold_26 : decode cX4_thoughtGoesAsTold 26 = .ok (.iload_n 1, 1) := by decide +kernel
theorem dX4_thoughtGoesAsTold_27 : decode cX4_thoughtGoesAsTold 27 = .ok (.invokevirtual 105, 3) := by decide +kernel
theorem dX4_thoughtGoesAsTold_30 : decode cX4_thoughtGoesAsTold 30 = .ok (.aload_n 0, 1) := by decide +kernel
theorem dX4_thoughtGoesAsTold_31 : decode cX4_thoughtGoesAsTold 31 = .ok (.getfield 38, 3) := by decide +kernel
theorem dX4_thoughtGoesAsTold_34 : decode cX4_thoughtGoesAsTold 34 = .ok (.iload_n 2, 1) := by decide +kernel
theorem dX4_thoughtGoesAsTold_35 : decode cX4_thoughtGoesAsTold 35 = .ok (.invokevirtual 105, 3) := by decide +kernel
theorem dX4_thoughtGoesAsTold_38 : decode cX4_thoughtGoesAsTold 38 = .ok (.if_icmp .eq 5, 3) := by decide +kernel
theorem dX4_thoughtGoesAsTold_41 : decode cX4_thoughtGoesAsTold 41 = .ok (.iconst 0, 1) := by decide +kernel
theorem dX4_thoughtGoesAsTold_42 : decode cX4_thoughtGoesAsTold 42 = .ok (.ireturn, 1) := by decide +kernel
theorem dX4_thoughtGoesAsTold_43 : decode cX4_thoughtGoesAsTold 43 = .ok (.aload_n 0, 1) := by decide +kernel
theorem dX4_thoughtGoesAsTold_44 : decode cX4_thoughtGoesAsTold 44 = .ok (.getfield 16, 3) := by decide +kernel
theorem dX4_thoughtGoesAsTold_47 : decode cX4_thoughtGoesAsTold 47 = .ok (.iconst 1, 1) := by decide +kernel
theorem dX4_thoughtGoesAsTold_48 : decode cX4_thoughtGoesAsTold 48 = .ok (.invokevirtual 142, 3) := by decide +kernel
theorem dX4_thoughtGoesAsTold_51 : decode cX4_thoughtGoesAsTold 51 = .ok (.iinc 2 1, 3) := by decide +kernel
theorem dX4_thoughtGoesAsTold_54 : decode cX4_thoughtGoesAsTold 54 = .ok (.goto (-52), 3) := by decide +kernel
theorem dX4_thoughtGoesAsTold_57 : decode cX4_thoughtGoesAsTold 57 = .ok (.iconst 1, 1) := by decide +kernel
theorem dX4_thoughtGoesAsTold_58 : decode cX4_thoughtGoesAsTold 58 = .ok (.ireturn, 1) := by decide +kernel
theorem dX4_judge_0 : decode cX4_judge 0 = .ok (.bipush (-9), 2) := by decide +kernel
theorem dX4_judge_2 : decode cX4_judge 2 = .ok (.istore_n 1, 1) := by decide +kernel
theorem dX4_judge_3 : decode cX4_judge 3 = .ok (.iconst 0, 1) := by decide +kernel
theorem dX4_judge_4 : decode cX4_judge 4 = .ok (.istore_n 2, 1) := by decide +kernel
theorem dX4_judge_5 : decode cX4_judge 5 = .ok (.iload_n 2, 1) := by decide +kernel
theorem dX4_judge_6 : decode cX4_judge 6 = .ok (.aload_n 0, 1) := by decide +kernel
theorem dX4_judge_7 : decode cX4_judge 7 = .ok (.getfield 38, 3) := by decide +kernel
theorem dX4_judge_10 : decode cX4_judge 10 = .ok (.getfield 65, 3) := by decide +kernel
theorem dX4_judge_13 : decode cX4_judge 13 = .ok (.if_icmp .ge 44, 3) := by decide +kernel
theorem dX4_judge_16 : decode cX4_judge 16 = .ok (.iload_n 1, 1) := by decide +kernel
theorem dX4_judge_17 : decode cX4_judge 17 = .ok (.bipush (-9), 2) := by decide +kernel
theorem dX4_judge_19 : decode cX4_judge 19 = .ok (.if_icmp .ne 38, 3) := by decide +kernel
theorem dX4_judge_22 : decode cX4_judge 22 = .ok (.iload_n 2, 1) := by decide +kernel
theorem dX4_judge_23 : decode cX4_judge 23 = .ok (.aload_n 0, 1) := by decide +kernel
theorem dX4_judge_24 : decode cX4_judge 24 = .ok (.getfield 10, 3) := by decide +kernel
theorem dX4_judge_27 : decode cX4_judge 27 = .ok (.getfield 108, 3) := by decide +kernel
theorem dX4_judge_30 : decode cX4_judge 30 = .ok (.if_icmp .ge 19, 3) := by decide +kernel
theorem dX4_judge_33 : decode cX4_judge 33 = .ok (.aload_n 0, 1) := by decide +kernel
theorem dX4_judge_34 : decode cX4_judge 34 = .ok (.getfield 38, 3) := by decide +kernel
theorem dX4_judge_37 : decode cX4_judge 37 = .ok (.iload_n 2, 1) := by decide +kernel
theorem dX4_judge_38 : decode cX4_judge 38 = .ok (.invokevirtual 105, 3) := by decide +kernel
theorem dX4_judge_41 : decode cX4_judge 41 = .ok (.aload_n 0, 1) := by decide +kernel
theorem dX4_judge_42 : decode cX4_judge 42 = .ok (.iload_n 2, 1) := by decide +kernel
theorem dX4_judge_43 : decode cX4_judge 43 = .ok (.invokevirtual 264, 3) := by decide +kernel
theorem dX4_judge_46 : decode cX4_judge 46 = .ok (.if_icmp .eq 5, 3) := by decide +kernel
theorem dX4_judge_49 : decode cX4_judge 49 = .ok (.iload_n 2, 1) := by decide +kernel
theorem dX4_judge_50 : decode cX4_judge 50 = .ok (.istore_n 1, 1) := by decide +kernel
theorem dX4_judge_51 : decode cX4_judge 51 = .ok (.iinc 2 1, 3) := by decide +kernel
theorem dX4_judge_54 : decode cX4_judge 54 = .ok (.goto (-49), 3) := by decide +kernel
theorem dX4_judge_57 : decode cX4_judge 57 = .ok (.aload_n 0, 1) := by decide +kernel
theorem dX4_judge_58 : decode cX4_judge 58 = .ok (.getfield 38, 3) := by decide +kernel
theorem dX4_judge_61 : decode cX4_judge 61 = .ok (.invokevirtual 79, 3) := by decide +kernel
theorem dX4_judge_64 : decode cX4_judge 64 = .ok (.iload_n 1, 1) := by decide +kernel
theorem dX4_judge_65 : decode cX4_judge 65 = .ok (.ireturn, 1) := by decide +kernel
theorem dX4_endAsJudged_0 : decode cX4_endAsJudged 0 = .ok (.aload_n 0, 1) := by decide +kernel
theorem dX4_endAsJudged_1 : decode cX4_endAsJudged 1 = .ok (.getfield 10, 3) := by decide +kernel
theorem dX4_endAsJudged_4 : decode cX4_endAsJudged 4 = .ok (.iload_n 1, 1) := by decide +kernel
theorem dX4_endAsJudged_5 : decode cX4_endAsJudged 5 = .ok (.invokevirtual 173, 3) := by decide +kernel
theorem dX4_endAsJudged_8 : decode cX4_endAsJudged 8 = .ok (.istore_n 2, 1) := by decide +kernel
theorem dX4_endAsJudged_9 : decode cX4_endAsJudged 9 = .ok (.iload_n 2, 1) := by decide +kernel
theorem dX4_endAsJudged_10 : decode cX4_endAsJudged 10 = .ok (.bipush (-9), 2) := by decide +kernel
theorem dX4_endAsJudged_12 : decode cX4_endAsJudged 12 = .ok (.if_icmp .ne 8, 3) := by decide +kernel
theorem dX4_endAsJudged_15 : decode cX4_endAsJudged 15 = .ok (.bipush 10, 2) := by decide +kernel
theorem dX4_endAsJudged_17 : decode cX4_endAsJudged 17 = .ok (.goto 4, 3) := by decide +kernel
theorem dX4_endAsJudged_20 : decode cX4_endAsJudged 20 = .ok (.iload_n 2, 1) := by decide +kernel
theorem dX4_endAsJudged_21 : decode cX4_endAsJudged 21 = .ok (.ireturn, 1) := by decide +kernel
theorem dX4_lots_0 : decode cX4_lots 0 = .ok (.iload_n 1, 1) := by decide +kernel
theorem dX4_lots_1 : decode cX4_lots 1 = .ok (.iconst 1, 1) := by decide +kernel
theorem dX4_lots_2 : decode cX4_lots 2 = .ok (.if_icmp .ge 10, 3) := by decide +kernel
theorem dX4_lots_5 : decode cX4_lots 5 = .ok (.aload_n 0, 1) := by decide +kernel
theorem dX4_lots_6 : decode cX4_lots 6 = .ok (.bipush (-4), 2) := by decide +kernel
theorem dX4_lots_8 : decode cX4_lots 8 = .ok (.invokevirtual 58, 3) := by decide +kernel
theorem dX4_lots_11 : decode cX4_lots 11 = .ok (.ireturn, 1) := by decide +kernel
theorem dX4_lots_12 : decode cX4_lots 12 = .ok (.iload_n 1, 1) := by decide +kernel
theorem dX4_lots_13 : decode cX4_lots 13 = .ok (.bipush 20, 2) := by decide +kernel
theorem dX4_lots_15 : decode cX4_lots 15 = .ok (.if_icmp .le 10, 3) := by decide +kernel
theorem dX4_lots_18 : decode cX4_lots 18 = .ok (.aload_n 0, 1) := by decide +kernel
theorem dX4_lots_19 : decode cX4_lots 19 = .ok (.bipush (-6), 2) := by decide +kernel
theorem dX4_lots_21 : decode cX4_lots 21 = .ok (.invokevirtual 58, 3) := by decide +kernel
theorem dX4_lots_24 : decode cX4_lots 24 = .ok (.ireturn, 1) := by decide +kernel
theorem dX4_lots_25 : decode cX4_lots 25 = .ok (.iload_n 3, 1) := by decide +kernel
theorem dX4_lots_26 : decode cX4_lots 26 = .ok (.ifCond .eq 15, 3) := by decide +kernel
theorem dX4_lots_29 : decode cX4_lots 29 = .ok (.iload_n 3, 1) := by decide +kernel
theorem dX4_lots_30 : decode cX4_lots 30 = .ok (.iconst 1, 1) := by decide +kernel
theorem dX4_lots_31 : decode cX4_lots 31 = .ok (.if_icmp .eq 10, 3) := by decide +kernel
theorem dX4_lots_34 : decode cX4_lots 34 = .ok (.aload_n 0, 1) := by decide +kernel
theorem dX4_lots_35 : decode cX4_lots 35 = .ok (.bipush (-2), 2) := by decide +kernel
theorem dX4_lots_37 : decode cX4_lots 37 = .ok (.invokevirtual 58, 3) := by decide +kernel
theorem dX4_lots_40 : decode cX4_lots 40 = .ok (.ireturn, 1) := by decide +kernel
theorem dX4_lots_41 : decode cX4_lots 41 = .ok (.iload_n 2, 1) := by decide +kernel
theorem dX4_lots_42 : decode cX4_lots 42 = .ok (.istore 4, 2) := by decide +kernel
theorem dX4_lots_44 : decode cX4_lots 44 = .ok (.iconst 0, 1) := by decide +kernel
theorem dX4_lots_45 : decode cX4_lots 45 = .ok (.istore 5, 2) := by decide +kernel
theorem dX4_lots_47 : decode cX4_lots 47 = .ok (.iconst 0, 1) := by decide +kernel
theorem dX4_lots_48 : decode cX4_lots 48 = .ok (.istore 6, 2) := by decide +kernel
theorem dX4_lots_50 : decode cX4_lots 50 = .ok (.iconst 0, 1) := by decide +kernel
theorem dX4_lots_51 : decode cX4_lots 51 = .ok (.istore 7, 2) := by decide +kernel
theorem dX4_lots_53 : decode cX4_lots 53 = .ok (.iload 7, 2) := by decide +kernel
theorem dX4_lots_55 : decode cX4_lots 55 = .ok (.iload_n 1, 1) := by decide +kernel
theorem dX4_lots_56 : decode cX4_lots 56 = .ok (.if_icmp .ge 128, 3) := by decide +kernel
theorem dX4_lots_59 : decode cX4_lots 59 = .ok (.iload 7, 2) := by decide +kernel
theorem dX4_lots_61 : decode cX4_lots 61 = .ok (.bipush 20, 2) := by decide +kernel
theorem dX4_lots_63 : decode cX4_lots 63 = .ok (.if_icmp .ge 121, 3) := by decide +kernel
theorem dX4_lots_66 : decode cX4_lots 66 = .ok (.aload_n 0, 1) := by decide +kernel
theorem dX4_lots_67 : decode cX4_lots 67 = .ok (.getfield 16, 3) := by decide +kernel
theorem dX4_lots_70 : decode cX4_lots 70 = .ok (.aload_n 0, 1) := by decide +kernel
theorem dX4_lots_71 : decode cX4_lots 71 = .ok (.getfield 10, 3) := by decide +kernel
theorem dX4_lots_74 : decode cX4_lots 74 = .ok (.invokevirtual 82, 3) := by decide +kernel
theorem dX4_lots_77 : decode cX4_lots 77 = .ok (.iconst 0, 1) := by decide +kernel
theorem dX4_lots_78 : decode cX4_lots 78 = .ok (.istore 8, 2) := by decide +kernel
theorem dX4_lots_80 : decode cX4_lots 80 = .ok (.iload 8, 2) := by decide +kernel
theorem dX4_lots_82 : decode cX4_lots 82 = .ok (.aload_n 0, 1) := by decide +kernel
theorem dX4_lots_83 : decode cX4_lots 83 = .ok (.getfield 16, 3) := by decide +kernel
theorem dX4_lots_86 : decode cX4_lots 86 = .ok (.getfield 108, 3) := by decide +kernel
theorem dX4_lots_89 : decode cX4_lots 89 = .ok (.if_icmp .ge 46, 3) := by decide +kernel
theorem dX4_lots_92 : decode cX4_lots 92 = .ok (.iload 4, 2) := by decide +kernel
theorem dX4_lots_94 : decode cX4_lots 94 = .ok (.ldc_w 267, 3) := by decide +kernel
theorem dX4_lots_97 : decode cX4_lots 97 = .ok (.imul, 1) := by decide +kernel
theorem dX4_lots_98 : decode cX4_lots 98 = .ok (.ldc_w 268, 3) := by decide +kernel
theorem dX4_lots_101 : decode cX4_lots 101 = .ok (.iadd, 1) := by decide +kernel
theorem dX4_lots_102 : decode cX4_lots 102 = .ok (.istore 4, 2) := by decide +kernel
theorem dX4_lots_104 : decode cX4_lots 104 = .ok (.aload_n 0, 1) := by decide +kernel
theorem dX4_lots_105 : decode cX4_lots 105 = .ok (.getfield 16, 3) := by decide +kernel
theorem dX4_lots_108 : decode cX4_lots 108 = .ok (.getfield 133, 3) := by decide +kernel
theorem dX4_lots_111 : decode cX4_lots 111 = .ok (.iload 8, 2) := by decide +kernel
theorem dX4_lots_113 : decode cX4_lots 113 = .ok (.iload 4, 2) := by decide +kernel
theorem dX4_lots_115 : decode cX4_lots 115 = .ok (.ldc_w 269, 3) := by decide +kernel
theorem dX4_lots_118 : decode cX4_lots 118 = .ok (.iand, 1) := by decide +kernel
theorem dX4_lots_119 : decode cX4_lots 119 = .ok (.sipush 256, 3) := by decide +kernel
theorem dX4_lots_122 : decode cX4_lots 122 = .ok (.idiv, 1) := by decide +kernel
theorem dX4_lots_123 : decode cX4_lots 123 = .ok (.bipush 10, 2) := by decide +kernel
theorem dX4_lots_125 : decode cX4_lots 125 = .ok (.irem, 1) := by decide +kernel
theorem dX4_lots_126 : decode cX4_lots 126 = .ok (.invokevirtual 136, 3) := by decide +kernel
theorem dX4_lots_129 : decode cX4_lots 129 = .ok (.iinc 8 1, 3) := by decide +kernel
theorem dX4_lots_132 : decode cX4_lots 132 = .ok (.goto (-52), 3) := by decide +kernel
theorem dX4_lots_135 : decode cX4_lots 135 = .ok (.aload_n 0, 1) := by decide +kernel
theorem dX4_lots_136 : decode cX4_lots 136 = .ok (.getfield 16, 3) := by decide +kernel
theorem dX4_lots_139 : decode cX4_lots 139 = .ok (.bipush 10, 2) := by decide +kernel
theorem dX4_lots_141 : decode cX4_lots 141 = .ok (.invokevirtual 142, 3) := by decide +kernel
theorem dX4_lots_144 : decode cX4_lots 144 = .ok (.iload 5, 2) := by decide +kernel
theorem dX4_lots_146 : decode cX4_lots 146 = .ok (.aload_n 0, 1) := by decide +kernel
theorem dX4_lots_147 : decode cX4_lots 147 = .ok (.getfield 16, 3) := by decide +kernel
theorem dX4_lots_150 : decode cX4_lots 150 = .ok (.getfield 139, 3) := by decide +kernel
theorem dX4_lots_153 : decode cX4_lots 153 = .ok (.aload_n 0, 1) := by decide +kernel
theorem dX4_lots_154 : decode cX4_lots 154 = .ok (.getfield 16, 3) := by decide +kernel
theorem dX4_lots_157 : decode cX4_lots 157 = .ok (.getfield 108, 3) := by decide +kernel
theorem dX4_lots_160 : decode cX4_lots 160 = .ok (.invokevirtual 185, 3) := by decide +kernel
theorem dX4_lots_163 : decode cX4_lots 163 = .ok (.iadd, 1) := by decide +kernel
theorem dX4_lots_164 : decode cX4_lots 164 = .ok (.istore 5, 2) := by decide +kernel
theorem dX4_lots_166 : decode cX4_lots 166 = .ok (.iload 6, 2) := by decide +kernel
theorem dX4_lots_168 : decode cX4_lots 168 = .ok (.aload_n 0, 1) := by decide +kernel
theorem dX4_lots_169 : decode cX4_lots 169 = .ok (.getfield 16, 3) := by decide +kernel
theorem dX4_lots_172 : decode cX4_lots 172 = .ok (.invokevirtual 270, 3) := by decide +kernel
theorem dX4_lots_175 : decode cX4_lots 175 = .ok (.iadd, 1) := by decide +kernel
theorem dX4_lots_176 : decode cX4_lots 176 = .ok (.istore 6, 2) := by decide +kernel
theorem dX4_lots_178 : decode cX4_lots 178 = .ok (.iinc 7 1, 3) := by decide +kernel
theorem dX4_lots_181 : decode cX4_lots 181 = .ok (.goto (-128), 3) := by decide +kernel
theorem dX4_lots_184 : decode cX4_lots 184 = .ok (.iload_n 3, 1) := by decide +kernel
theorem dX4_lots_185 : decode cX4_lots 185 = .ok (.ifCond .ne 8, 3) := by decide +kernel
theorem dX4_lots_188 : decode cX4_lots 188 = .ok (.iload 5, 2) := by decide +kernel
theorem dX4_lots_190 : decode cX4_lots 190 = .ok (.goto 5, 3) := by decide +kernel
theorem dX4_lots_193 : decode cX4_lots 193 = .ok (.iload 6, 2) := by decide +kernel
theorem dX4_lots_195 : decode cX4_lots 195 = .ok (.ireturn, 1) := by decide +kernel
theorem dX4_image_0 : decode cX4_image 0 = .ok (.aload_n 0, 1) := by decide +kernel
theorem dX4_image_1 : decode cX4_image 1 = .ok (.getfield 19, 3) := by decide +kernel
theorem dX4_image_4 : decode cX4_image 4 = .ok (.aload_n 0, 1) := by decide +kernel
theorem dX4_image_5 : decode cX4_image 5 = .ok (.getfield 10, 3) := by decide +kernel
theorem dX4_image_8 : decode cX4_image 8 = .ok (.invokevirtual 82, 3) := by decide +kernel
theorem dX4_image_11 : decode cX4_image 11 = .ok (.aload_n 0, 1) := by decide +kernel
theorem dX4_image_12 : decode cX4_image 12 = .ok (.iconst 1, 1) := by decide +kernel
theorem dX4_image_13 : decode cX4_image 13 = .ok (.putfield 22, 3) := by decide +kernel
theorem dX4_image_16 : decode cX4_image 16 = .ok (.aload_n 0, 1) := by decide +kernel
theorem dX4_image_17 : decode cX4_image 17 = .ok (.getfield 10, 3) := by decide +kernel
theorem dX4_image_20 : decode cX4_image 20 = .ok (.getfield 188, 3) := by decide +kernel
theorem dX4_image_23 : decode cX4_image 23 = .ok (.ireturn, 1) := by decide +kernel
theorem dX4_on_0 : decode cX4_on 0 = .ok (.aload_n 0, 1) := by decide +kernel
theorem dX4_on_1 : decode cX4_on 1 = .ok (.getfield 22, 3) := by decide +kernel
theorem dX4_on_4 : decode cX4_on 4 = .ok (.ifCond .ne 10, 3) := by decide +kernel
theorem dX4_on_7 : decode cX4_on 7 = .ok (.aload_n 0, 1) := by decide +kernel
theorem dX4_on_8 : decode cX4_on 8 = .ok (.bipush (-3), 2) := by decide +kernel
theorem dX4_on_10 : decode cX4_on 10 = .ok (.invokevirtual 58, 3) := by decide +kernel
theorem dX4_on_13 : decode cX4_on 13 = .ok (.ireturn, 1) := by decide +kernel
theorem dX4_on_14 : decode cX4_on 14 = .ok (.aload_n 0, 1) := by decide +kernel
theorem dX4_on_15 : decode cX4_on 15 = .ok (.getfield 10, 3) := by decide +kernel
theorem dX4_on_18 : decode cX4_on 18 = .ok (.aload_n 0, 1) := by decide +kernel
theorem dX4_on_19 : decode cX4_on 19 = .ok (.getfield 19, 3) := by decide +kernel
theorem dX4_on_22 : decode cX4_on 22 = .ok (.invokevirtual 82, 3) := by decide +kernel
theorem dX4_on_25 : decode cX4_on 25 = .ok (.aload_n 0, 1) := by decide +kernel
theorem dX4_on_26 : decode cX4_on 26 = .ok (.getfield 10, 3) := by decide +kernel
theorem dX4_on_29 : decode cX4_on 29 = .ok (.getfield 188, 3) := by decide +kernel
theorem dX4_on_32 : decode cX4_on 32 = .ok (.ireturn, 1) := by decide +kernel
theorem dX4_count_0 : decode cX4_count 0 = .ok (.iload_n 1, 1) := by decide +kernel
theorem dX4_count_1 : decode cX4_count 1 = .ok (.tableswitch 134 0 7 #[47, 55, 63, 71, 89, 107, 115, 123], 47) := by decide +kernel
theorem dX4_count_48 : decode cX4_count 48 = .ok (.aload_n 0, 1) := by decide +kernel
theorem dX4_count_49 : decode cX4_count 49 = .ok (.getfield 10, 3) := by decide +kernel
theorem dX4_count_52 : decode cX4_count 52 = .ok (.getfield 108, 3) := by decide +kernel
theorem dX4_count_55 : decode cX4_count 55 = .ok (.ireturn, 1) := by decide +kernel
theorem dX4_count_56 : decode cX4_count 56 = .ok (.aload_n 0, 1) := by decide +kernel
theorem dX4_count_57 : decode cX4_count 57 = .ok (.getfield 10, 3) := by decide +kernel
theorem dX4_count_60 : decode cX4_count 60 = .ok (.getfield 188, 3) := by decide +kernel
theorem dX4_count_63 : decode cX4_count 63 = .ok (.ireturn, 1) := by decide +kernel
theorem dX4_count_64 : decode cX4_count 64 = .ok (.aload_n 0, 1) := by decide +kernel
theorem dX4_count_65 : decode cX4_count 65 = .ok (.getfield 10, 3) := by decide +kernel
theorem dX4_count_68 : decode cX4_count 68 = .ok (.invokevirtual 273, 3) := by decide +kernel
theorem dX4_count_71 : decode cX4_count 71 = .ok (.ireturn, 1) := by decide +kernel
theorem dX4_count_72 : decode cX4_count 72 = .ok (.aload_n 0, 1) := by decide +kernel
theorem dX4_count_73 : decode cX4_count 73 = .ok (.getfield 10, 3) := by decide +kernel
theorem dX4_count_76 : decode cX4_count 76 = .ok (.getfield 139, 3) := by decide +kernel
theorem dX4_count_79 : decode cX4_count 79 = .ok (.aload_n 0, 1) := by decide +kernel
theorem dX4_count_80 : decode cX4_count 80 = .ok (.getfield 10, 3) := by decide +kernel
theorem dX4_count_83 : decode cX4_count 83 = .ok (.getfield 108, 3) := by decide +kernel
theorem dX4_count_86 : decode cX4_count 86 = .ok (.invokevirtual 185, 3) := by decide +kernel
theorem dX4_count_89 : decode cX4_count 89 = .ok (.ireturn, 1) := by decide +kernel
theorem dX4_count_90 : decode cX4_count 90 = .ok (.aload_n 0, 1) := by decide +kernel
theorem dX4_count_91 : decode cX4_count 91 = .ok (.getfield 10, 3) := by decide +kernel
theorem dX4_count_94 : decode cX4_count 94 = .ok (.getfield 133, 3) := by decide +kernel
theorem dX4_count_97 : decode cX4_count 97 = .ok (.aload_n 0, 1) := by decide +kernel
theorem dX4_count_98 : decode cX4_count 98 = .ok (.getfield 10, 3) := by decide +kernel
theorem dX4_count_101 : decode cX4_count 101 = .ok (.getfield 108, 3) := by decide +kernel
theorem dX4_count_104 : decode cX4_count 104 = .ok (.invokevirtual 185, 3) := by decide +kernel
theorem dX4_count_107 : decode cX4_count 107 = .ok (.ireturn, 1) := by decide +kernel
theorem dX4_count_108 : decode cX4_count 108 = .ok (.aload_n 0, 1) := by decide +kernel
theorem dX4_count_109 : decode cX4_count 109 = .ok (.invokevirtual 276, 3) := by decide +kernel
theorem dX4_count_112 : decode cX4_count 112 = .ok (.invokestatic 210, 3) := by decide +kernel
theorem dX4_count_115 : decode cX4_count 115 = .ok (.ireturn, 1) := by decide +kernel
theorem dX4_count_116 : decode cX4_count 116 = .ok (.aload_n 0, 1) := by decide +kernel
theorem dX4_count_117 : decode cX4_count 117 = .ok (.getfield 38, 3) := by decide +kernel
theorem dX4_count_120 : decode cX4_count 120 = .ok (.getfield 65, 3) := by decide +kernel
theorem dX4_count_123 : decode cX4_count 123 = .ok (.ireturn, 1) := by decide +kernel
theorem dX4_count_124 : decode cX4_count 124 = .ok (.aload_n 0, 1) := by decide +kernel
theorem dX4_count_125 : decode cX4_count 125 = .ok (.getfield 29, 3) := by decide +kernel
theorem dX4_count_128 : decode cX4_count 128 = .ok (.getfield 62, 3) := by decide +kernel
theorem dX4_count_131 : decode cX4_count 131 = .ok (.getfield 65, 3) := by decide +kernel
theorem dX4_count_134 : decode cX4_count 134 = .ok (.ireturn, 1) := by decide +kernel
theorem dX4_count_135 : decode cX4_count 135 = .ok (.iload_n 1, 1) := by decide +kernel
theorem dX4_count_136 : decode cX4_count 136 = .ok (.bipush 10, 2) := by decide +kernel
theorem dX4_count_138 : decode cX4_count 138 = .ok (.if_icmp .le 23, 3) := by decide +kernel
theorem dX4_count_141 : decode cX4_count 141 = .ok (.iload_n 1, 1) := by decide +kernel
theorem dX4_count_142 : decode cX4_count 142 = .ok (.bipush 16, 2) := by decide +kernel
theorem dX4_count_144 : decode cX4_count 144 = .ok (.if_icmp .gt 17, 3) := by decide +kernel
theorem dX4_count_147 : decode cX4_count 147 = .ok (.aload_n 0, 1) := by decide +kernel
theorem dX4_count_148 : decode cX4_count 148 = .ok (.getfield 42, 3) := by decide +kernel
theorem dX4_count_151 : decode cX4_count 151 = .ok (.iload_n 1, 1) := by decide +kernel
theorem dX4_count_152 : decode cX4_count 152 = .ok (.bipush 10, 2) := by decide +kernel
theorem dX4_count_154 : decode cX4_count 154 = .ok (.isub, 1) := by decide +kernel
theorem dX4_count_155 : decode cX4_count 155 = .ok (.invokevirtual 105, 3) := by decide +kernel
theorem dX4_count_158 : decode cX4_count 158 = .ok (.goto 5, 3) := by decide +kernel
theorem dX4_count_161 : decode cX4_count 161 = .ok (.bipush (-9), 2) := by decide +kernel
theorem dX4_count_163 : decode cX4_count 163 = .ok (.ireturn, 1) := by decide +kernel
theorem dX4_refused_0 : decode cX4_refused 0 = .ok (.aload_n 0, 1) := by decide +kernel
theorem dX4_refused_1 : decode cX4_refused 1 = .ok (.getfield 42, 3) := by decide +kernel
theorem dX4_refused_4 : decode cX4_refused 4 = .ok (.iload_n 1, 1) := by decide +kernel
theorem dX4_refused_5 : decode cX4_refused 5 = .ok (.ineg, 1) := by decide +kernel
theorem dX4_refused_6 : decode cX4_refused 6 = .ok (.aload_n 0, 1) := by decide +kernel
theorem dX4_refused_7 : decode cX4_refused 7 = .ok (.getfield 42, 3) := by decide +kernel
theorem dX4_refused_10 : decode cX4_refused 10 = .ok (.iload_n 1, 1) := by decide +kernel
theorem dX4_refused_11 : decode cX4_refused 11 = .ok (.ineg, 1) := by decide +kernel
theorem dX4_refused_12 : decode cX4_refused 12 = .ok (.invokevirtual 105, 3) := by decide +kernel
theorem dX4_refused_15 : decode cX4_refused 15 = .ok (.iconst 1, 1) := by decide +kernel
theorem dX4_refused_16 : decode cX4_refused 16 = .ok (.iadd, 1) := by decide +kernel
theorem dX4_refused_17 : decode cX4_refused 17 = .ok (.invokevirtual 136, 3) := by decide +kernel
theorem dX4_refused_20 : decode cX4_refused 20 = .ok (.iload_n 1, 1) := by decide +kernel
theorem dX4_refused_21 : decode cX4_refused 21 = .ok (.ireturn, 1) := by decide +kernel
theorem dX4_refusedAsBig_0 : decode cX4_refusedAsBig 0 = .ok (.ldc_w 279, 3) := by decide +kernel
theorem dX4_refusedAsBig_3 : decode cX4_refusedAsBig 3 = .ok (.aload_n 0, 1) := by decide +kernel
theorem dX4_refusedAsBig_4 : decode cX4_refusedAsBig 4 = .ok (.iload_n 1, 1) := by decide +kernel
theorem dX4_refusedAsBig_5 : decode cX4_refusedAsBig 5 = .ok (.invokevirtual 58, 3) := by decide +kernel
theorem dX4_refusedAsBig_8 : decode cX4_refusedAsBig 8 = .ok (.isub, 1) := by decide +kernel
theorem dX4_refusedAsBig_9 : decode cX4_refusedAsBig 9 = .ok (.ireturn, 1) := by decide +kernel
theorem dX4_refusedAsLong_0 : decode cX4_refusedAsLong 0 = .ok (.ldc2_w 280, 3) := by decide +kernel
theorem dX4_refusedAsLong_3 : decode cX4_refusedAsLong 3 = .ok (.aload_n 0, 1) := by decide +kernel
theorem dX4_refusedAsLong_4 : decode cX4_refusedAsLong 4 = .ok (.iload_n 1, 1) := by decide +kernel
theorem dX4_refusedAsLong_5 : decode cX4_refusedAsLong 5 = .ok (.invokevirtual 58, 3) := by decide +kernel
theorem dX4_refusedAsLong_8 : decode cX4_refusedAsLong 8 = .ok (.i2l, 1) := by decide +kernel
theorem dX4_refusedAsLong_9 : decode cX4_refusedAsLong 9 = .ok (.lsub, 1) := by decide +kernel
theorem dX4_refusedAsLong_10 : decode cX4_refusedAsLong 10 = .ok (.lreturn, 1) := by decide +kernel
theorem dX4_opensWith_0 : decode cX4_opensWith 0 = .ok (.iload_n 0, 1) := by decide +kernel
theorem dX4_opensWith_1 : decode cX4_opensWith 1 = .ok (.iload_n 1, 1) := by decide +kernel
theorem dX4_opensWith_2 : decode cX4_opensWith 2 = .ok (.iadd, 1) := by decide +kernel
theorem dX4_opensWith_3 : decode cX4_opensWith 3 = .ok (.bipush 10, 2) := by decide +kernel
theorem dX4_opensWith_5 : decode cX4_opensWith 5 = .ok (.irem, 1) := by decide +kernel
theorem dX4_opensWith_6 : decode cX4_opensWith 6 = .ok (.ireturn, 1) := by decide +kernel
theorem dX4_endOfKind_0 : decode cX4_endOfKind 0 = .ok (.iload_n 2, 1) := by decide +kernel
theorem dX4_endOfKind_1 : decode cX4_endOfKind 1 = .ok (.iload_n 1, 1) := by decide +kernel
theorem dX4_endOfKind_2 : decode cX4_endOfKind 2 = .ok (.iadd, 1) := by decide +kernel
theorem dX4_endOfKind_3 : decode cX4_endOfKind 3 = .ok (.bipush 10, 2) := by decide +kernel
theorem dX4_endOfKind_5 : decode cX4_endOfKind 5 = .ok (.irem, 1) := by decide +kernel
theorem dX4_endOfKind_6 : decode cX4_endOfKind 6 = .ok (.istore_n 3, 1) := by decide +kernel
theorem dX4_endOfKind_7 : decode cX4_endOfKind 7 = .ok (.bipush 9, 2) := by decide +kernel
theorem dX4_endOfKind_9 : decode cX4_endOfKind 9 = .ok (.iload_n 3, 1) := by decide +kernel
theorem dX4_endOfKind_10 : decode cX4_endOfKind 10 = .ok (.isub, 1) := by decide +kernel
theorem dX4_endOfKind_11 : decode cX4_endOfKind 11 = .ok (.istore 4, 2) := by decide +kernel
theorem dX4_endOfKind_13 : decode cX4_endOfKind 13 = .ok (.iconst 0, 1) := by decide +kernel
theorem dX4_endOfKind_14 : decode cX4_endOfKind 14 = .ok (.istore 5, 2) := by decide +kernel
theorem dX4_endOfKind_16 : decode cX4_endOfKind 16 = .ok (.iload_n 0, 1) := by decide +kernel
theorem dX4_endOfKind_17 : decode cX4_endOfKind 17 = .ok (.tableswitch 74 0 5 #[74, 39, 42, 45, 47, 59], 39) := by decide +kernel
theorem dX4_endOfKind_56 : decode cX4_endOfKind 56 = .ok (.iload 4, 2) := by decide +kernel
theorem dX4_endOfKind_58 : decode cX4_endOfKind 58 = .ok (.ireturn, 1) := by decide +kernel
theorem dX4_endOfKind_59 : decode cX4_endOfKind 59 = .ok (.iload 5, 2) := by decide +kernel
theorem dX4_endOfKind_61 : decode cX4_endOfKind 61 = .ok (.ireturn, 1) := by decide +kernel
theorem dX4_endOfKind_62 : decode cX4_endOfKind 62 = .ok (.iconst 5, 1) := by decide +kernel
theorem dX4_endOfKind_63 : decode cX4_endOfKind 63 = .ok (.ireturn, 1) := by decide +kernel
theorem dX4_endOfKind_64 : decode cX4_endOfKind 64 = .ok (.iload_n 2, 1) := by decide +kernel
theorem dX4_endOfKind_65 : decode cX4_endOfKind 65 = .ok (.iconst 5, 1) := by decide +kernel
theorem dX4_endOfKind_66 : decode cX4_endOfKind 66 = .ok (.if_icmp .ge 8, 3) := by decide +kernel
theorem dX4_endOfKind_69 : decode cX4_endOfKind 69 = .ok (.iload 4, 2) := by decide +kernel
theorem dX4_endOfKind_71 : decode cX4_endOfKind 71 = .ok (.goto 4, 3) := by decide +kernel
theorem dX4_endOfKind_74 : decode cX4_endOfKind 74 = .ok (.iload_n 2, 1) := by decide +kernel
theorem dX4_endOfKind_75 : decode cX4_endOfKind 75 = .ok (.ireturn, 1) := by decide +kernel
theorem dX4_endOfKind_76 : decode cX4_endOfKind 76 = .ok (.iload_n 2, 1) := by decide +kernel
theorem dX4_endOfKind_77 : decode cX4_endOfKind 77 = .ok (.iconst 2, 1) := by decide +kernel
theorem dX4_endOfKind_78 : decode cX4_endOfKind 78 = .ok (.irem, 1) := by decide +kernel
theorem dX4_endOfKind_79 : decode cX4_endOfKind 79 = .ok (.iconst 1, 1) := by decide +kernel
theorem dX4_endOfKind_80 : decode cX4_endOfKind 80 = .ok (.if_icmp .ne 8, 3) := by decide +kernel
theorem dX4_endOfKind_83 : decode cX4_endOfKind 83 = .ok (.bipush 9, 2) := by decide +kernel
theorem dX4_endOfKind_85 : decode cX4_endOfKind 85 = .ok (.goto 5, 3) := by decide +kernel
theorem dX4_endOfKind_88 : decode cX4_endOfKind 88 = .ok (.iload 5, 2) := by decide +kernel
theorem dX4_endOfKind_90 : decode cX4_endOfKind 90 = .ok (.ireturn, 1) := by decide +kernel
theorem dX4_endOfKind_91 : decode cX4_endOfKind 91 = .ok (.iload_n 3, 1) := by decide +kernel
theorem dX4_endOfKind_92 : decode cX4_endOfKind 92 = .ok (.ireturn, 1) := by decide +kernel
theorem dX4_gainOfKind_0 : decode cX4_gainOfKind 0 = .ok (.iconst 0, 1) := by decide +kernel
theorem dX4_gainOfKind_1 : decode cX4_gainOfKind 1 = .ok (.istore_n 1, 1) := by decide +kernel
theorem dX4_gainOfKind_2 : decode cX4_gainOfKind 2 = .ok (.iconst 1, 1) := by decide +kernel
theorem dX4_gainOfKind_3 : decode cX4_gainOfKind 3 = .ok (.istore_n 2, 1) := by decide +kernel
theorem dX4_gainOfKind_4 : decode cX4_gainOfKind 4 = .ok (.iload_n 1, 1) := by decide +kernel
theorem dX4_gainOfKind_5 : decode cX4_gainOfKind 5 = .ok (.iconst 2, 1) := by decide +kernel
theorem dX4_gainOfKind_6 : decode cX4_gainOfKind 6 = .ok (.isub, 1) := by decide +kernel
theorem dX4_gainOfKind_7 : decode cX4_gainOfKind 7 = .ok (.istore_n 3, 1) := by decide +kernel
theorem dX4_gainOfKind_8 : decode cX4_gainOfKind 8 = .ok (.iload_n 0, 1) := by decide +kernel
theorem dX4_gainOfKind_9 : decode cX4_gainOfKind 9 = .ok (.tableswitch 47 0 5 #[47, 39, 41, 47, 39, 43], 39) := by decide +kernel
theorem dX4_gainOfKind_48 : decode cX4_gainOfKind 48 = .ok (.iload_n 2, 1) := by decide +kernel
theorem dX4_gainOfKind_49 : decode cX4_gainOfKind 49 = .ok (.ireturn, 1) := by decide +kernel
theorem dX4_gainOfKind_50 : decode cX4_gainOfKind 50 = .ok (.iload_n 3, 1) := by decide +kernel
theorem dX4_gainOfKind_51 : decode cX4_gainOfKind 51 = .ok (.ireturn, 1) := by decide +kernel
theorem dX4_gainOfKind_52 : decode cX4_gainOfKind 52 = .ok (.iload_n 3, 1) := by decide +kernel
theorem dX4_gainOfKind_53 : decode cX4_gainOfKind 53 = .ok (.iconst 4, 1) := by decide +kernel
theorem dX4_gainOfKind_54 : decode cX4_gainOfKind 54 = .ok (.iadd, 1) := by decide +kernel
theorem dX4_gainOfKind_55 : decode cX4_gainOfKind 55 = .ok (.ireturn, 1) := by decide +kernel
theorem dX4_gainOfKind_56 : decode cX4_gainOfKind 56 = .ok (.iload_n 1, 1) := by decide +kernel
theorem dX4_gainOfKind_57 : decode cX4_gainOfKind 57 = .ok (.ireturn, 1) := by decide +kernel
theorem dX4_worthBetween_0 : decode cX4_worthBetween 0 = .ok (.iload_n 0, 1) := by decide +kernel
theorem dX4_worthBetween_1 : decode cX4_worthBetween 1 = .ok (.iload_n 1, 1) := by decide +kernel
theorem dX4_worthBetween_2 : decode cX4_worthBetween 2 = .ok (.if_icmp .le 9, 3) := by decide +kernel
theorem dX4_worthBetween_5 : decode cX4_worthBetween 5 = .ok (.iload_n 0, 1) := by decide +kernel
theorem dX4_worthBetween_6 : decode cX4_worthBetween 6 = .ok (.iload_n 1, 1) := by decide +kernel
theorem dX4_worthBetween_7 : decode cX4_worthBetween 7 = .ok (.isub, 1) := by decide +kernel
theorem dX4_worthBetween_8 : decode cX4_worthBetween 8 = .ok (.goto 6, 3) := by decide +kernel
theorem dX4_worthBetween_11 : decode cX4_worthBetween 11 = .ok (.iload_n 1, 1) := by decide +kernel
theorem dX4_worthBetween_12 : decode cX4_worthBetween 12 = .ok (.iload_n 0, 1) := by decide +kernel
theorem dX4_worthBetween_13 : decode cX4_worthBetween 13 = .ok (.isub, 1) := by decide +kernel
theorem dX4_worthBetween_14 : decode cX4_worthBetween 14 = .ok (.istore_n 2, 1) := by decide +kernel
theorem dX4_worthBetween_15 : decode cX4_worthBetween 15 = .ok (.bipush 10, 2) := by decide +kernel
theorem dX4_worthBetween_17 : decode cX4_worthBetween 17 = .ok (.iload_n 2, 1) := by decide +kernel
theorem dX4_worthBetween_18 : decode cX4_worthBetween 18 = .ok (.isub, 1) := by decide +kernel
theorem dX4_worthBetween_19 : decode cX4_worthBetween 19 = .ok (.istore_n 3, 1) := by decide +kernel
theorem dX4_worthBetween_20 : decode cX4_worthBetween 20 = .ok (.bipush 9, 2) := by decide +kernel
theorem dX4_worthBetween_22 : decode cX4_worthBetween 22 = .ok (.iconst 2, 1) := by decide +kernel
theorem dX4_worthBetween_23 : decode cX4_worthBetween 23 = .ok (.iload_n 2, 1) := by decide +kernel
theorem dX4_worthBetween_24 : decode cX4_worthBetween 24 = .ok (.iload_n 3, 1) := by decide +kernel
theorem dX4_worthBetween_25 : decode cX4_worthBetween 25 = .ok (.if_icmp .ge 7, 3) := by decide +kernel
theorem dX4_worthBetween_28 : decode cX4_worthBetween 28 = .ok (.iload_n 2, 1) := by decide +kernel
theorem dX4_worthBetween_29 : decode cX4_worthBetween 29 = .ok (.goto 4, 3) := by decide +kernel
theorem dX4_worthBetween_32 : decode cX4_worthBetween 32 = .ok (.iload_n 3, 1) := by decide +kernel
theorem dX4_worthBetween_33 : decode cX4_worthBetween 33 = .ok (.imul, 1) := by decide +kernel
theorem dX4_worthBetween_34 : decode cX4_worthBetween 34 = .ok (.isub, 1) := by decide +kernel
theorem dX4_worthBetween_35 : decode cX4_worthBetween 35 = .ok (.ireturn, 1) := by decide +kernel
