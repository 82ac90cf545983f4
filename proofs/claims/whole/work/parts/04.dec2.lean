theorem dM_init_0 : decode cM_init 0 = .ok (.aload_n 0, 1) := by decide +kernel
theorem dM_init_1 : decode cM_init 1 = .ok (.invokespecial 1, 3) := by decide +kernel
theorem dM_init_4 : decode cM_init 4 = .ok (.aload_n 0, 1) := by decide +kernel
theorem dM_init_5 : decode cM_init 5 = .ok (.sipush 300, 3) := by decide +kernel
theorem dM_init_8 : decode cM_init 8 = .ok (.newarray .int, 2) := by decide +kernel
theorem dM_init_10 : decode cM_init 10 = .ok (.putfield 7, 3) := by decide +kernel
theorem dM_init_13 : decode cM_init 13 = .ok (.aload_n 0, 1) := by decide +kernel
theorem dM_init_14 : decode cM_init 14 = .ok (.iconst 3, 1) := by decide +kernel
theorem dM_init_15 : decode cM_init 15 = .ok (.newarray .int, 2) := by decide +kernel
theorem dM_init_17 : decode cM_init 17 = .ok (.putfield 13, 3) := by decide +kernel
theorem dM_init_20 : decode cM_init 20 = .ok (.aload_n 0, 1) := by decide +kernel
theorem dM_init_21 : decode cM_init 21 = .ok (.sipush 900, 3) := by decide +kernel
theorem dM_init_24 : decode cM_init 24 = .ok (.newarray .int, 2) := by decide +kernel
theorem dM_init_26 : decode cM_init 26 = .ok (.putfield 16, 3) := by decide +kernel
theorem dM_init_29 : decode cM_init 29 = .ok (.aload_n 0, 1) := by decide +kernel
theorem dM_init_30 : decode cM_init 30 = .ok (.sipush 9600, 3) := by decide +kernel
theorem dM_init_33 : decode cM_init 33 = .ok (.newarray .boolean, 2) := by decide +kernel
theorem dM_init_35 : decode cM_init 35 = .ok (.putfield 19, 3) := by decide +kernel
theorem dM_init_38 : decode cM_init 38 = .ok (.aload_n 0, 1) := by decide +kernel
theorem dM_init_39 : decode cM_init 39 = .ok (.bipush 6, 2) := by decide +kernel
theorem dM_init_41 : decode cM_init 41 = .ok (.newarray .int, 2) := by decide +kernel
theorem dM_init_43 : decode cM_init 43 = .ok (.putfield 23, 3) := by decide +kernel
theorem dM_init_46 : decode cM_init 46 = .ok (.aload_n 0, 1) := by decide +kernel
theorem dM_init_47 : decode cM_init 47 = .ok (.bipush 6, 2) := by decide +kernel
theorem dM_init_49 : decode cM_init 49 = .ok (.newarray .int, 2) := by decide +kernel
theorem dM_init_51 : decode cM_init 51 = .ok (.putfield 26, 3) := by decide +kernel
theorem dM_init_54 : decode cM_init 54 = .ok (.aload_n 0, 1) := by decide +kernel
theorem dM_init_55 : decode cM_init 55 = .ok (.bipush 6, 2) := by decide +kernel
theorem dM_init_57 : decode cM_init 57 = .ok (.newarray .int, 2) := by decide +kernel
theorem dM_init_59 : decode cM_init 59 = .ok (.putfield 29, 3) := by decide +kernel
theorem dM_init_62 : decode cM_init 62 = .ok (.aload_n 0, 1) := by decide +kernel
theorem dM_init_63 : decode cM_init 63 = .ok (.bipush 6, 2) := by decide +kernel
theorem dM_init_65 : decode cM_init 65 = .ok (.newarray .boolean, 2) := by decide +kernel
theorem dM_init_67 : decode cM_init 67 = .ok (.putfield 32, 3) := by decide +kernel
theorem dM_init_70 : decode cM_init 70 = .ok (.aload_n 0, 1) := by decide +kernel
theorem dM_init_71 : decode cM_init 71 = .ok (.bipush 6, 2) := by decide +kernel
theorem dM_init_73 : decode cM_init 73 = .ok (.newarray .int, 2) := by decide +kernel
theorem dM_init_75 : decode cM_init 75 = .ok (.putfield 35, 3) := by decide +kernel
theorem dM_init_78 : decode cM_init 78 = .ok (.aload_n 0, 1) := by decide +kernel
theorem dM_init_79 : decode cM_init 79 = .ok (.bipush 6, 2) := by decide +kernel
theorem dM_init_81 : decode cM_init 81 = .ok (.newarray .int, 2) := by decide +kernel
theorem dM_init_83 : decode cM_init 83 = .ok (.putfield 38, 3) := by decide +kernel
theorem dM_init_86 : decode cM_init 86 = .ok (.aload_n 0, 1) := by decide +kernel
theorem dM_init_87 : decode cM_init 87 = .ok (.sipush 1600, 3) := by decide +kernel
theorem dM_init_90 : decode cM_init 90 = .ok (.newarray .boolean, 2) := by decide +kernel
theorem dM_init_92 : decode cM_init 92 = .ok (.putfield 41, 3) := by decide +kernel
theorem dM_init_95 : decode cM_init 95 = .ok (.aload_n 0, 1) := by decide +kernel
theorem dM_init_96 : decode cM_init 96 = .ok (.sipush 1600, 3) := by decide +kernel
theorem dM_init_99 : decode cM_init 99 = .ok (.newarray .boolean, 2) := by decide +kernel
theorem dM_init_101 : decode cM_init 101 = .ok (.putfield 44, 3) := by decide +kernel
theorem dM_init_104 : decode cM_init 104 = .ok (.iconst 0, 1) := by decide +kernel
theorem dM_init_105 : decode cM_init 105 = .ok (.istore_n 1, 1) := by decide +kernel
theorem dM_init_106 : decode cM_init 106 = .ok (.iload_n 1, 1) := by decide +kernel
theorem dM_init_107 : decode cM_init 107 = .ok (.iconst 4, 1) := by decide +kernel
theorem dM_init_108 : decode cM_init 108 = .ok (.if_icmp .ge 15, 3) := by decide +kernel
theorem dM_init_111 : decode cM_init 111 = .ok (.aload_n 0, 1) := by decide +kernel
theorem dM_init_112 : decode cM_init 112 = .ok (.iload_n 1, 1) := by decide +kernel
theorem dM_init_113 : decode cM_init 113 = .ok (.iconst 0, 1) := by decide +kernel
theorem dM_init_114 : decode cM_init 114 = .ok (.invokevirtual 47, 3) := by decide +kernel
theorem dM_init_117 : decode cM_init 117 = .ok (.iinc 1 1, 3) := by decide +kernel
theorem dM_init_120 : decode cM_init 120 = .ok (.goto (-14), 3) := by decide +kernel
theorem dM_init_123 : decode cM_init 123 = .ok (.return_, 1) := by decide +kernel
theorem dM_thrown_0 : decode cM_thrown 0 = .ok (.aload_n 0, 1) := by decide +kernel
theorem dM_thrown_1 : decode cM_thrown 1 = .ok (.getfield 51, 3) := by decide +kernel
theorem dM_thrown_4 : decode cM_thrown 4 = .ok (.ireturn, 1) := by decide +kernel
theorem dM_at_0 : decode cM_at 0 = .ok (.bipush 64, 2) := by decide +kernel
theorem dM_at_2 : decode cM_at 2 = .ok (.iconst 5, 1) := by decide +kernel
theorem dM_at_3 : decode cM_at 3 = .ok (.iload_n 1, 1) := by decide +kernel
theorem dM_at_4 : decode cM_at 4 = .ok (.iconst 5, 1) := by decide +kernel
theorem dM_at_5 : decode cM_at 5 = .ok (.irem, 1) := by decide +kernel
theorem dM_at_6 : decode cM_at 6 = .ok (.imul, 1) := by decide +kernel
theorem dM_at_7 : decode cM_at 7 = .ok (.iload_n 0, 1) := by decide +kernel
theorem dM_at_8 : decode cM_at 8 = .ok (.iconst 5, 1) := by decide +kernel
theorem dM_at_9 : decode cM_at 9 = .ok (.irem, 1) := by decide +kernel
theorem dM_at_10 : decode cM_at 10 = .ok (.iadd, 1) := by decide +kernel
theorem dM_at_11 : decode cM_at 11 = .ok (.imul, 1) := by decide +kernel
theorem dM_at_12 : decode cM_at 12 = .ok (.iload_n 2, 1) := by decide +kernel
theorem dM_at_13 : decode cM_at 13 = .ok (.iadd, 1) := by decide +kernel
theorem dM_at_14 : decode cM_at 14 = .ok (.ireturn, 1) := by decide +kernel
theorem dM_isOdd_0 : decode cM_isOdd 0 = .ok (.iconst 0, 1) := by decide +kernel
theorem dM_isOdd_1 : decode cM_isOdd 1 = .ok (.istore_n 3, 1) := by decide +kernel
theorem dM_isOdd_2 : decode cM_isOdd 2 = .ok (.iconst 0, 1) := by decide +kernel
theorem dM_isOdd_3 : decode cM_isOdd 3 = .ok (.istore 4, 2) := by decide +kernel
theorem dM_isOdd_5 : decode cM_isOdd 5 = .ok (.iload 4, 2) := by decide +kernel
theorem dM_isOdd_7 : decode cM_isOdd 7 = .ok (.iconst 5, 1) := by decide +kernel
theorem dM_isOdd_8 : decode cM_isOdd 8 = .ok (.if_icmp .ge 31, 3) := by decide +kernel
theorem dM_isOdd_11 : decode cM_isOdd 11 = .ok (.iload_n 3, 1) := by decide +kernel
theorem dM_isOdd_12 : decode cM_isOdd 12 = .ok (.aload_n 0, 1) := by decide +kernel
theorem dM_isOdd_13 : decode cM_isOdd 13 = .ok (.getfield 41, 3) := by decide +kernel
theorem dM_isOdd_16 : decode cM_isOdd 16 = .ok (.iload_n 1, 1) := by decide +kernel
theorem dM_isOdd_17 : decode cM_isOdd 17 = .ok (.iload 4, 2) := by decide +kernel
theorem dM_isOdd_19 : decode cM_isOdd 19 = .ok (.iload_n 2, 1) := by decide +kernel
theorem dM_isOdd_20 : decode cM_isOdd 20 = .ok (.invokestatic 55, 3) := by decide +kernel
theorem dM_isOdd_23 : decode cM_isOdd 23 = .ok (.baload, 1) := by decide +kernel
theorem dM_isOdd_24 : decode cM_isOdd 24 = .ok (.if_icmp .eq 7, 3) := by decide +kernel
theorem dM_isOdd_27 : decode cM_isOdd 27 = .ok (.iconst 1, 1) := by decide +kernel
theorem dM_isOdd_28 : decode cM_isOdd 28 = .ok (.goto 4, 3) := by decide +kernel
theorem dM_isOdd_31 : decode cM_isOdd 31 = .ok (.iconst 0, 1) := by decide +kernel
theorem dM_isOdd_32 : decode cM_isOdd 32 = .ok (.istore_n 3, 1) := by decide +kernel
theorem dM_isOdd_33 : decode cM_isOdd 33 = .ok (.iinc 4 1, 3) := by decide +kernel
theorem dM_isOdd_36 : decode cM_isOdd 36 = .ok (.goto (-31), 3) := by decide +kernel
theorem dM_isOdd_39 : decode cM_isOdd 39 = .ok (.iload_n 3, 1) := by decide +kernel
theorem dM_isOdd_40 : decode cM_isOdd 40 = .ok (.ireturn, 1) := by decide +kernel
theorem dM_take_0 : decode cM_take 0 = .ok (.iconst 0, 1) := by decide +kernel
theorem dM_take_1 : decode cM_take 1 = .ok (.istore_n 1, 1) := by decide +kernel
theorem dM_take_2 : decode cM_take 2 = .ok (.iload_n 1, 1) := by decide +kernel
theorem dM_take_3 : decode cM_take 3 = .ok (.sipush 1600, 3) := by decide +kernel
theorem dM_take_6 : decode cM_take 6 = .ok (.if_icmp .ge 21, 3) := by decide +kernel
theorem dM_take_9 : decode cM_take 9 = .ok (.aload_n 0, 1) := by decide +kernel
theorem dM_take_10 : decode cM_take 10 = .ok (.getfield 41, 3) := by decide +kernel
theorem dM_take_13 : decode cM_take 13 = .ok (.iload_n 1, 1) := by decide +kernel
theorem dM_take_14 : decode cM_take 14 = .ok (.aload_n 0, 1) := by decide +kernel
theorem dM_take_15 : decode cM_take 15 = .ok (.getfield 44, 3) := by decide +kernel
theorem dM_take_18 : decode cM_take 18 = .ok (.iload_n 1, 1) := by decide +kernel
theorem dM_take_19 : decode cM_take 19 = .ok (.baload, 1) := by decide +kernel
theorem dM_take_20 : decode cM_take 20 = .ok (.bastore, 1) := by decide +kernel
theorem dM_take_21 : decode cM_take 21 = .ok (.iinc 1 1, 3) := by decide +kernel
theorem dM_take_24 : decode cM_take 24 = .ok (.goto (-22), 3) := by decide +kernel
theorem dM_take_27 : decode cM_take 27 = .ok (.return_, 1) := by decide +kernel
theorem dM_columns_0 : decode cM_columns 0 = .ok (.iconst 0, 1) := by decide +kernel
theorem dM_columns_1 : decode cM_columns 1 = .ok (.istore_n 1, 1) := by decide +kernel
theorem dM_columns_2 : decode cM_columns 2 = .ok (.iload_n 1, 1) := by decide +kernel
theorem dM_columns_3 : decode cM_columns 3 = .ok (.iconst 5, 1) := by decide +kernel
theorem dM_columns_4 : decode cM_columns 4 = .ok (.if_icmp .ge 102, 3) := by decide +kernel
theorem dM_columns_7 : decode cM_columns 7 = .ok (.iconst 0, 1) := by decide +kernel
theorem dM_columns_8 : decode cM_columns 8 = .ok (.istore_n 2, 1) := by decide +kernel
theorem dM_columns_9 : decode cM_columns 9 = .ok (.iload_n 2, 1) := by decide +kernel
theorem dM_columns_10 : decode cM_columns 10 = .ok (.bipush 64, 2) := by decide +kernel
theorem dM_columns_12 : decode cM_columns 12 = .ok (.if_icmp .ge 88, 3) := by decide +kernel
theorem dM_columns_15 : decode cM_columns 15 = .ok (.aload_n 0, 1) := by decide +kernel
theorem dM_columns_16 : decode cM_columns 16 = .ok (.iload_n 1, 1) := by decide +kernel
theorem dM_columns_17 : decode cM_columns 17 = .ok (.iconst 4, 1) := by decide +kernel
theorem dM_columns_18 : decode cM_columns 18 = .ok (.iadd, 1) := by decide +kernel
theorem dM_columns_19 : decode cM_columns 19 = .ok (.iload_n 2, 1) := by decide +kernel
theorem dM_columns_20 : decode cM_columns 20 = .ok (.invokevirtual 59, 3) := by decide +kernel
theorem dM_columns_23 : decode cM_columns 23 = .ok (.aload_n 0, 1) := by decide +kernel
theorem dM_columns_24 : decode cM_columns 24 = .ok (.iload_n 1, 1) := by decide +kernel
theorem dM_columns_25 : decode cM_columns 25 = .ok (.iconst 1, 1) := by decide +kernel
theorem dM_columns_26 : decode cM_columns 26 = .ok (.iadd, 1) := by decide +kernel
theorem dM_columns_27 : decode cM_columns 27 = .ok (.iload_n 2, 1) := by decide +kernel
theorem dM_columns_28 : decode cM_columns 28 = .ok (.bipush 63, 2) := by decide +kernel
theorem dM_columns_30 : decode cM_columns 30 = .ok (.iadd, 1) := by decide +kernel
theorem dM_columns_31 : decode cM_columns 31 = .ok (.bipush 64, 2) := by decide +kernel
theorem dM_columns_33 : decode cM_columns 33 = .ok (.irem, 1) := by decide +kernel
theorem dM_columns_34 : decode cM_columns 34 = .ok (.invokevirtual 59, 3) := by decide +kernel
theorem dM_columns_37 : decode cM_columns 37 = .ok (.if_icmp .eq 7, 3) := by decide +kernel
theorem dM_columns_40 : decode cM_columns 40 = .ok (.iconst 1, 1) := by decide +kernel
theorem dM_columns_41 : decode cM_columns 41 = .ok (.goto 4, 3) := by decide +kernel
theorem dM_columns_44 : decode cM_columns 44 = .ok (.iconst 0, 1) := by decide +kernel
theorem dM_columns_45 : decode cM_columns 45 = .ok (.istore_n 3, 1) := by decide +kernel
theorem dM_columns_46 : decode cM_columns 46 = .ok (.iconst 0, 1) := by decide +kernel
theorem dM_columns_47 : decode cM_columns 47 = .ok (.istore 4, 2) := by decide +kernel
theorem dM_columns_49 : decode cM_columns 49 = .ok (.iload 4, 2) := by decide +kernel
theorem dM_columns_51 : decode cM_columns 51 = .ok (.iconst 5, 1) := by decide +kernel
theorem dM_columns_52 : decode cM_columns 52 = .ok (.if_icmp .ge 42, 3) := by decide +kernel
theorem dM_columns_55 : decode cM_columns 55 = .ok (.aload_n 0, 1) := by decide +kernel
theorem dM_columns_56 : decode cM_columns 56 = .ok (.getfield 44, 3) := by decide +kernel
theorem dM_columns_59 : decode cM_columns 59 = .ok (.iload_n 1, 1) := by decide +kernel
theorem dM_columns_60 : decode cM_columns 60 = .ok (.iload 4, 2) := by decide +kernel
theorem dM_columns_62 : decode cM_columns 62 = .ok (.iload_n 2, 1) := by decide +kernel
theorem dM_columns_63 : decode cM_columns 63 = .ok (.invokestatic 55, 3) := by decide +kernel
theorem dM_columns_66 : decode cM_columns 66 = .ok (.aload_n 0, 1) := by decide +kernel
theorem dM_columns_67 : decode cM_columns 67 = .ok (.getfield 41, 3) := by decide +kernel
theorem dM_columns_70 : decode cM_columns 70 = .ok (.iload_n 1, 1) := by decide +kernel
theorem dM_columns_71 : decode cM_columns 71 = .ok (.iload 4, 2) := by decide +kernel
theorem dM_columns_73 : decode cM_columns 73 = .ok (.iload_n 2, 1) := by decide +kernel
theorem dM_columns_74 : decode cM_columns 74 = .ok (.invokestatic 55, 3) := by decide +kernel
theorem dM_columns_77 : decode cM_columns 77 = .ok (.baload, 1) := by decide +kernel
theorem dM_columns_78 : decode cM_columns 78 = .ok (.iload_n 3, 1) := by decide +kernel
theorem dM_columns_79 : decode cM_columns 79 = .ok (.if_icmp .eq 7, 3) := by decide +kernel
theorem dM_columns_82 : decode cM_columns 82 = .ok (.iconst 1, 1) := by decide +kernel
theorem dM_columns_83 : decode cM_columns 83 = .ok (.goto 4, 3) := by decide +kernel
theorem dM_columns_86 : decode cM_columns 86 = .ok (.iconst 0, 1) := by decide +kernel
theorem dM_columns_87 : decode cM_columns 87 = .ok (.bastore, 1) := by decide +kernel
theorem dM_columns_88 : decode cM_columns 88 = .ok (.iinc 4 1, 3) := by decide +kernel
theorem dM_columns_91 : decode cM_columns 91 = .ok (.goto (-42), 3) := by decide +kernel
theorem dM_columns_94 : decode cM_columns 94 = .ok (.iinc 2 1, 3) := by decide +kernel
theorem dM_columns_97 : decode cM_columns 97 = .ok (.goto (-88), 3) := by decide +kernel
theorem dM_columns_100 : decode cM_columns 100 = .ok (.iinc 1 1, 3) := by decide +kernel
theorem dM_columns_103 : decode cM_columns 103 = .ok (.goto (-101), 3) := by decide +kernel
theorem dM_columns_106 : decode cM_columns 106 = .ok (.aload_n 0, 1) := by decide +kernel
theorem dM_columns_107 : decode cM_columns 107 = .ok (.invokevirtual 63, 3) := by decide +kernel
theorem dM_columns_110 : decode cM_columns 110 = .ok (.return_, 1) := by decide +kernel
theorem dM_turns_0 : decode cM_turns 0 = .ok (.iconst 1, 1) := by decide +kernel
theorem dM_turns_1 : decode cM_turns 1 = .ok (.istore_n 1, 1) := by decide +kernel
theorem dM_turns_2 : decode cM_turns 2 = .ok (.iconst 0, 1) := by decide +kernel
theorem dM_turns_3 : decode cM_turns 3 = .ok (.istore_n 2, 1) := by decide +kernel
theorem dM_turns_4 : decode cM_turns 4 = .ok (.iconst 0, 1) := by decide +kernel
theorem dM_turns_5 : decode cM_turns 5 = .ok (.istore_n 3, 1) := by decide +kernel
theorem dM_turns_6 : decode cM_turns 6 = .ok (.iload_n 3, 1) := by decide +kernel
theorem dM_turns_7 : decode cM_turns 7 = .ok (.bipush 64, 2) := by decide +kernel
theorem dM_turns_9 : decode cM_turns 9 = .ok (.if_icmp .ge 21, 3) := by decide +kernel
theorem dM_turns_12 : decode cM_turns 12 = .ok (.aload_n 0, 1) := by decide +kernel
theorem dM_turns_13 : decode cM_turns 13 = .ok (.getfield 44, 3) := by decide +kernel
theorem dM_turns_16 : decode cM_turns 16 = .ok (.iload_n 3, 1) := by decide +kernel
theorem dM_turns_17 : decode cM_turns 17 = .ok (.aload_n 0, 1) := by decide +kernel
theorem dM_turns_18 : decode cM_turns 18 = .ok (.getfield 41, 3) := by decide +kernel
theorem dM_turns_21 : decode cM_turns 21 = .ok (.iload_n 3, 1) := by decide +kernel
theorem dM_turns_22 : decode cM_turns 22 = .ok (.baload, 1) := by decide +kernel
theorem dM_turns_23 : decode cM_turns 23 = .ok (.bastore, 1) := by decide +kernel
theorem dM_turns_24 : decode cM_turns 24 = .ok (.iinc 3 1, 3) := by decide +kernel
theorem dM_turns_27 : decode cM_turns 27 = .ok (.goto (-21), 3) := by decide +kernel
theorem dM_turns_30 : decode cM_turns 30 = .ok (.iconst 0, 1) := by decide +kernel
theorem dM_turns_31 : decode cM_turns 31 = .ok (.istore_n 3, 1) := by decide +kernel
theorem dM_turns_32 : decode cM_turns 32 = .ok (.iload_n 3, 1) := by decide +kernel
theorem dM_turns_33 : decode cM_turns 33 = .ok (.bipush 24, 2) := by decide +kernel
theorem dM_turns_35 : decode cM_turns 35 = .ok (.if_icmp .ge 82, 3) := by decide +kernel
theorem dM_turns_38 : decode cM_turns 38 = .ok (.iload_n 3, 1) := by decide +kernel
theorem dM_turns_39 : decode cM_turns 39 = .ok (.iconst 1, 1) := by decide +kernel
theorem dM_turns_40 : decode cM_turns 40 = .ok (.iadd, 1) := by decide +kernel
theorem dM_turns_41 : decode cM_turns 41 = .ok (.iload_n 3, 1) := by decide +kernel
theorem dM_turns_42 : decode cM_turns 42 = .ok (.iconst 2, 1) := by decide +kernel
theorem dM_turns_43 : decode cM_turns 43 = .ok (.iadd, 1) := by decide +kernel
theorem dM_turns_44 : decode cM_turns 44 = .ok (.imul, 1) := by decide +kernel
theorem dM_turns_45 : decode cM_turns 45 = .ok (.iconst 2, 1) := by decide +kernel
theorem dM_turns_46 : decode cM_turns 46 = .ok (.idiv, 1) := by decide +kernel
theorem dM_turns_47 : decode cM_turns 47 = .ok (.istore 4, 2) := by decide +kernel
theorem dM_turns_49 : decode cM_turns 49 = .ok (.iconst 0, 1) := by decide +kernel
theorem dM_turns_50 : decode cM_turns 50 = .ok (.istore 5, 2) := by decide +kernel
theorem dM_turns_52 : decode cM_turns 52 = .ok (.iload 5, 2) := by decide +kernel
theorem dM_turns_54 : decode cM_turns 54 = .ok (.bipush 64, 2) := by decide +kernel
theorem dM_turns_56 : decode cM_turns 56 = .ok (.if_icmp .ge 39, 3) := by decide +kernel
theorem dM_turns_59 : decode cM_turns 59 = .ok (.aload_n 0, 1) := by decide +kernel
theorem dM_turns_60 : decode cM_turns 60 = .ok (.getfield 44, 3) := by decide +kernel
theorem dM_turns_63 : decode cM_turns 63 = .ok (.iload_n 1, 1) := by decide +kernel
theorem dM_turns_64 : decode cM_turns 64 = .ok (.iload_n 2, 1) := by decide +kernel
theorem dM_turns_65 : decode cM_turns 65 = .ok (.iload 5, 2) := by decide +kernel
theorem dM_turns_67 : decode cM_turns 67 = .ok (.iload 4, 2) := by decide +kernel
theorem dM_turns_69 : decode cM_turns 69 = .ok (.iadd, 1) := by decide +kernel
theorem dM_turns_70 : decode cM_turns 70 = .ok (.bipush 64, 2) := by decide +kernel
theorem dM_turns_72 : decode cM_turns 72 = .ok (.irem, 1) := by decide +kernel
theorem dM_turns_73 : decode cM_turns 73 = .ok (.invokestatic 55, 3) := by decide +kernel
theorem dM_turns_76 : decode cM_turns 76 = .ok (.aload_n 0, 1) := by decide +kernel
theorem dM_turns_77 : decode cM_turns 77 = .ok (.getfield 41, 3) := by decide +kernel
theorem dM_turns_80 : decode cM_turns 80 = .ok (.iload_n 1, 1) := by decide +kernel
theorem dM_turns_81 : decode cM_turns 81 = .ok (.iload_n 2, 1) := by decide +kernel
theorem dM_turns_82 : decode cM_turns 82 = .ok (.iload 5, 2) := by decide +kernel
theorem dM_turns_84 : decode cM_turns 84 = .ok (.invokestatic 55, 3) := by decide +kernel
theorem dM_turns_87 : decode cM_turns 87 = .ok (.baload, 1) := by decide +kernel
theorem dM_turns_88 : decode cM_turns 88 = .ok (.bastore, 1) := by decide +kernel
theorem dM_turns_89 : decode cM_turns 89 = .ok (.iinc 5 1, 3) := by decide +kernel
theorem dM_turns_92 : decode cM_turns 92 = .ok (.goto (-40), 3) := by decide +kernel
theorem dM_turns_95 : decode cM_turns 95 = .ok (.iload_n 1, 1) := by decide +kernel
theorem dM_turns_96 : decode cM_turns 96 = .ok (.istore 5, 2) := by decide +kernel
theorem dM_turns_98 : decode cM_turns 98 = .ok (.iload_n 2, 1) := by decide +kernel
theorem dM_turns_99 : decode cM_turns 99 = .ok (.istore_n 1, 1) := by decide +kernel
theorem dM_turns_100 : decode cM_turns 100 = .ok (.iconst 2, 1) := by decide +kernel
theorem dM_turns_101 : decode cM_turns 101 = .ok (.iload 5, 2) := by decide +kernel
theorem dM_turns_103 : decode cM_turns 103 = .ok (.imul, 1) := by decide +kernel
theorem dM_turns_104 : decode cM_turns 104 = .ok (.iconst 3, 1) := by decide +kernel
theorem dM_turns_105 : decode cM_turns 105 = .ok (.iload_n 2, 1) := by decide +kernel
theorem dM_turns_106 : decode cM_turns 106 = .ok (.imul, 1) := by decide +kernel
theorem dM_turns_107 : decode cM_turns 107 = .ok (.iadd, 1) := by decide +kernel
theorem dM_turns_108 : decode cM_turns 108 = .ok (.iconst 5, 1) := by decide +kernel
theorem dM_turns_109 : decode cM_turns 109 = .ok (.irem, 1) := by decide +kernel
theorem dM_turns_110 : decode cM_turns 110 = .ok (.istore_n 2, 1) := by decide +kernel
theorem dM_turns_111 : decode cM_turns 111 = .ok (.iinc 3 1, 3) := by decide +kernel
theorem dM_turns_114 : decode cM_turns 114 = .ok (.goto (-82), 3) := by decide +kernel
theorem dM_turns_117 : decode cM_turns 117 = .ok (.aload_n 0, 1) := by decide +kernel
theorem dM_turns_118 : decode cM_turns 118 = .ok (.invokevirtual 63, 3) := by decide +kernel
theorem dM_turns_121 : decode cM_turns 121 = .ok (.return_, 1) := by decide +kernel
theorem dM_places_0 : decode cM_places 0 = .ok (.iconst 0, 1) := by decide +kernel
theorem dM_places_1 : decode cM_places 1 = .ok (.istore_n 1, 1) := by decide +kernel
theorem dM_places_2 : decode cM_places 2 = .ok (.iload_n 1, 1) := by decide +kernel
theorem dM_places_3 : decode cM_places 3 = .ok (.iconst 5, 1) := by decide +kernel
theorem dM_places_4 : decode cM_places 4 = .ok (.if_icmp .ge 64, 3) := by decide +kernel
theorem dM_places_7 : decode cM_places 7 = .ok (.iconst 0, 1) := by decide +kernel
theorem dM_places_8 : decode cM_places 8 = .ok (.istore_n 2, 1) := by decide +kernel
theorem dM_places_9 : decode cM_places 9 = .ok (.iload_n 2, 1) := by decide +kernel
theorem dM_places_10 : decode cM_places 10 = .ok (.iconst 5, 1) := by decide +kernel
theorem dM_places_11 : decode cM_places 11 = .ok (.if_icmp .ge 51, 3) := by decide +kernel
theorem dM_places_14 : decode cM_places 14 = .ok (.iconst 0, 1) := by decide +kernel
theorem dM_places_15 : decode cM_places 15 = .ok (.istore_n 3, 1) := by decide +kernel
theorem dM_places_16 : decode cM_places 16 = .ok (.iload_n 3, 1) := by decide +kernel
theorem dM_places_17 : decode cM_places 17 = .ok (.bipush 64, 2) := by decide +kernel
theorem dM_places_19 : decode cM_places 19 = .ok (.if_icmp .ge 37, 3) := by decide +kernel
theorem dM_places_22 : decode cM_places 22 = .ok (.aload_n 0, 1) := by decide +kernel
theorem dM_places_23 : decode cM_places 23 = .ok (.getfield 44, 3) := by decide +kernel
theorem dM_places_26 : decode cM_places 26 = .ok (.iload_n 2, 1) := by decide +kernel
theorem dM_places_27 : decode cM_places 27 = .ok (.iconst 2, 1) := by decide +kernel
theorem dM_places_28 : decode cM_places 28 = .ok (.iload_n 1, 1) := by decide +kernel
theorem dM_places_29 : decode cM_places 29 = .ok (.imul, 1) := by decide +kernel
theorem dM_places_30 : decode cM_places 30 = .ok (.iconst 3, 1) := by decide +kernel
theorem dM_places_31 : decode cM_places 31 = .ok (.iload_n 2, 1) := by decide +kernel
theorem dM_places_32 : decode cM_places 32 = .ok (.imul, 1) := by decide +kernel
theorem dM_places_33 : decode cM_places 33 = .ok (.iadd, 1) := by decide +kernel
theorem dM_places_34 : decode cM_places 34 = .ok (.iload_n 3, 1) := by decide +kernel
theorem dM_places_35 : decode cM_places 35 = .ok (.invokestatic 55, 3) := by decide +kernel
theorem dM_places_38 : decode cM_places 38 = .ok (.aload_n 0, 1) := by decide +kernel
theorem dM_places_39 : decode cM_places 39 = .ok (.getfield 41, 3) := by decide +kernel
theorem dM_places_42 : decode cM_places 42 = .ok (.iload_n 1, 1) := by decide +kernel
theorem dM_places_43 : decode cM_places 43 = .ok (.iload_n 2, 1) := by decide +kernel
theorem dM_places_44 : decode cM_places 44 = .ok (.iload_n 3, 1) := by decide +kernel
theorem dM_places_45 : decode cM_places 45 = .ok (.invokestatic 55, 3) := by decide +kernel
theorem dM_places_48 : decode cM_places 48 = .ok (.baload, 1) := by decide +kernel
theorem dM_places_49 : decode cM_places 49 = .ok (.bastore, 1) := by decide +kernel
theorem dM_places_50 : decode cM_places 50 = .ok (.iinc 3 1, 3) := by decide +kernel
theorem dM_places_53 : decode cM_places 53 = .ok (.goto (-37), 3) := by decide +kernel
theorem dM_places_56 : decode cM_places 56 = .ok (.iinc 2 1, 3) := by decide +kernel
theorem dM_places_59 : decode cM_places 59 = .ok (.goto (-50), 3) := by decide +kernel
theorem dM_places_62 : decode cM_places 62 = .ok (.iinc 1 1, 3) := by decide +kernel
theorem dM_places_65 : decode cM_places 65 = .ok (.goto (-63), 3) := by decide +kernel
theorem dM_places_68 : decode cM_places 68 = .ok (.aload_n 0, 1) := by decide +kernel
theorem dM_places_69 : decode cM_places 69 = .ok (.invokevirtual 63, 3) := by decide +kernel
theorem dM_places_72 : decode cM_places 72 = .ok (.return_, 1) := by decide +kernel
theorem dM_rowsOf_0 : decode cM_rowsOf 0 = .ok (.iconst 0, 1) := by decide +kernel
theorem dM_rowsOf_1 : decode cM_rowsOf 1 = .ok (.istore_n 1, 1) := by decide +kernel
theorem dM_rowsOf_2 : decode cM_rowsOf 2 = .ok (.iload_n 1, 1) := by decide +kernel
theorem dM_rowsOf_3 : decode cM_rowsOf 3 = .ok (.iconst 5, 1) := by decide +kernel
theorem dM_rowsOf_4 : decode cM_rowsOf 4 = .ok (.if_icmp .ge 107, 3) := by decide +kernel
theorem dM_rowsOf_7 : decode cM_rowsOf 7 = .ok (.iconst 0, 1) := by decide +kernel
theorem dM_rowsOf_8 : decode cM_rowsOf 8 = .ok (.istore_n 2, 1) := by decide +kernel
theorem dM_rowsOf_9 : decode cM_rowsOf 9 = .ok (.iload_n 2, 1) := by decide +kernel
theorem dM_rowsOf_10 : decode cM_rowsOf 10 = .ok (.iconst 5, 1) := by decide +kernel
theorem dM_rowsOf_11 : decode cM_rowsOf 11 = .ok (.if_icmp .ge 94, 3) := by decide +kernel
theorem dM_rowsOf_14 : decode cM_rowsOf 14 = .ok (.iconst 0, 1) := by decide +kernel
theorem dM_rowsOf_15 : decode cM_rowsOf 15 = .ok (.istore_n 3, 1) := by decide +kernel
theorem dM_rowsOf_16 : decode cM_rowsOf 16 = .ok (.iload_n 3, 1) := by decide +kernel
theorem dM_rowsOf_17 : decode cM_rowsOf 17 = .ok (.bipush 64, 2) := by decide +kernel
theorem dM_rowsOf_19 : decode cM_rowsOf 19 = .ok (.if_icmp .ge 80, 3) := by decide +kernel
theorem dM_rowsOf_22 : decode cM_rowsOf 22 = .ok (.aload_n 0, 1) := by decide +kernel
theorem dM_rowsOf_23 : decode cM_rowsOf 23 = .ok (.getfield 41, 3) := by decide +kernel
theorem dM_rowsOf_26 : decode cM_rowsOf 26 = .ok (.iload_n 1, 1) := by decide +kernel
theorem dM_rowsOf_27 : decode cM_rowsOf 27 = .ok (.iconst 1, 1) := by decide +kernel
theorem dM_rowsOf_28 : decode cM_rowsOf 28 = .ok (.iadd, 1) := by decide +kernel
theorem dM_rowsOf_29 : decode cM_rowsOf 29 = .ok (.iload_n 2, 1) := by decide +kernel
theorem dM_rowsOf_30 : decode cM_rowsOf 30 = .ok (.iload_n 3, 1) := by decide +kernel
theorem dM_rowsOf_31 : decode cM_rowsOf 31 = .ok (.invokestatic 55, 3) := by decide +kernel
theorem dM_rowsOf_34 : decode cM_rowsOf 34 = .ok (.baload, 1) := by decide +kernel
theorem dM_rowsOf_35 : decode cM_rowsOf 35 = .ok (.ifCond .ne 23, 3) := by decide +kernel
theorem dM_rowsOf_38 : decode cM_rowsOf 38 = .ok (.aload_n 0, 1) := by decide +kernel
theorem dM_rowsOf_39 : decode cM_rowsOf 39 = .ok (.getfield 41, 3) := by decide +kernel
theorem dM_rowsOf_42 : decode cM_rowsOf 42 = .ok (.iload_n 1, 1) := by decide +kernel
theorem dM_rowsOf_43 : decode cM_rowsOf 43 = .ok (.iconst 2, 1) := by decide +kernel
theorem dM_rowsOf_44 : decode cM_rowsOf 44 = .ok (.iadd, 1) := by decide +kernel
theorem dM_rowsOf_45 : decode cM_rowsOf 45 = .ok (.iload_n 2, 1) := by decide +kernel
theorem dM_rowsOf_46 : decode cM_rowsOf 46 = .ok (.iload_n 3, 1) := by decide +kernel
theorem dM_rowsOf_47 : decode cM_rowsOf 47 = .ok (.invokestatic 55, 3) := by decide +kernel
theorem dM_rowsOf_50 : decode cM_rowsOf 50 = .ok (.baload, 1) := by decide +kernel
theorem dM_rowsOf_51 : decode cM_rowsOf 51 = .ok (.ifCond .eq 7, 3) := by decide +kernel
theorem dM_rowsOf_54 : decode cM_rowsOf 54 = .ok (.iconst 1, 1) := by decide +kernel
theorem dM_rowsOf_55 : decode cM_rowsOf 55 = .ok (.goto 4, 3) := by decide +kernel
theorem dM_rowsOf_58 : decode cM_rowsOf 58 = .ok (.iconst 0, 1) := by decide +kernel
theorem dM_rowsOf_59 : decode cM_rowsOf 59 = .ok (.istore 4, 2) := by decide +kernel
theorem dM_rowsOf_61 : decode cM_rowsOf 61 = .ok (.aload_n 0, 1) := by decide +kernel
theorem dM_rowsOf_62 : decode cM_rowsOf 62 = .ok (.getfield 44, 3) := by decide +kernel
theorem dM_rowsOf_65 : decode cM_rowsOf 65 = .ok (.iload_n 1, 1) := by decide +kernel
theorem dM_rowsOf_66 : decode cM_rowsOf 66 = .ok (.iload_n 2, 1) := by decide +kernel
theorem dM_rowsOf_67 : decode cM_rowsOf 67 = .ok (.iload_n 3, 1) := by decide +kernel
theorem dM_rowsOf_68 : decode cM_rowsOf 68 = .ok (.invokestatic 55, 3) := by decide +kernel
theorem dM_rowsOf_71 : decode cM_rowsOf 71 = .ok (.aload_n 0, 1) := by decide +kernel
theorem dM_rowsOf_72 : decode cM_rowsOf 72 = .ok (.getfield 41, 3) := by decide +kernel
theorem dM_rowsOf_75 : decode cM_rowsOf 75 = .ok (.iload_n 1, 1) := by decide +kernel
theorem dM_rowsOf_76 : decode cM_rowsOf 76 = .ok (.iload_n 2, 1) := by decide +kernel
theorem dM_rowsOf_77 : decode cM_rowsOf 77 = .ok (.iload_n 3, 1) := by decide +kernel
theorem dM_rowsOf_78 : decode cM_rowsOf 78 = .ok (.invokestatic 55, 3) := by decide +kernel
theorem dM_rowsOf_81 : decode cM_rowsOf 81 = .ok (.baload, 1) := by decide +kernel
theorem dM_rowsOf_82 : decode cM_rowsOf 82 = .ok (.iload 4, 2) := by decide +kernel
theorem dM_rowsOf_84 : decode cM_rowsOf 84 = .ok (.if_icmp .eq 7, 3) := by decide +kernel
theorem dM_rowsOf_87 : decode cM_rowsOf 87 = .ok (.iconst 1, 1) := by decide +kernel
theorem dM_rowsOf_88 : decode cM_rowsOf 88 = .ok (.goto 4, 3) := by decide +kernel
theorem dM_rowsOf_91 : decode cM_rowsOf 91 = .ok (.iconst 0, 1) := by decide +kernel
theorem dM_rowsOf_92 : decode cM_rowsOf 92 = .ok (.bastore, 1) := by decide +kernel
theorem dM_rowsOf_93 : decode cM_rowsOf 93 = .ok (.iinc 3 1, 3) := by decide +kernel
theorem dM_rowsOf_96 : decode cM_rowsOf 96 = .ok (.goto (-80), 3) := by decide +kernel
theorem dM_rowsOf_99 : decode cM_rowsOf 99 = .ok (.iinc 2 1, 3) := by decide +kernel
theorem dM_rowsOf_102 : decode cM_rowsOf 102 = .ok (.goto (-93), 3) := by decide +kernel
theorem dM_rowsOf_105 : decode cM_rowsOf 105 = .ok (.iinc 1 1, 3) := by decide +kernel
theorem dM_rowsOf_108 : decode cM_rowsOf 108 = .ok (.goto (-106), 3) := by decide +kernel
theorem dM_rowsOf_111 : decode cM_rowsOf 111 = .ok (.aload_n 0, 1) := by decide +kernel
theorem dM_rowsOf_112 : decode cM_rowsOf 112 = .ok (.invokevirtual 63, 3) := by decide +kernel
theorem dM_rowsOf_115 : decode cM_rowsOf 115 = .ok (.return_, 1) := by decide +kernel
theorem dM_constant_0 : decode cM_constant 0 = .ok (.iconst 1, 1) := by decide +kernel
theorem dM_constant_1 : decode cM_constant 1 = .ok (.istore_n 1, 1) := by decide +kernel
theorem dM_constant_2 : decode cM_constant 2 = .ok (.iconst 0, 1) := by decide +kernel
theorem dM_constant_3 : decode cM_constant 3 = .ok (.istore_n 2, 1) := by decide +kernel
theorem dM_constant_4 : decode cM_constant 4 = .ok (.iload_n 2, 1) := by decide +kernel
theorem dM_constant_5 : decode cM_constant 5 = .ok (.iload_n 0, 1) := by decide +kernel
theorem dM_constant_6 : decode cM_constant 6 = .ok (.if_icmp .ge 33, 3) := by decide +kernel
theorem dM_constant_9 : decode cM_constant 9 = .ok (.iconst 2, 1) := by decide +kernel
theorem dM_constant_10 : decode cM_constant 10 = .ok (.iload_n 1, 1) := by decide +kernel
theorem dM_constant_11 : decode cM_constant 11 = .ok (.imul, 1) := by decide +kernel
theorem dM_constant_12 : decode cM_constant 12 = .ok (.istore_n 1, 1) := by decide +kernel
theorem dM_constant_13 : decode cM_constant 13 = .ok (.iload_n 1, 1) := by decide +kernel
theorem dM_constant_14 : decode cM_constant 14 = .ok (.sipush 255, 3) := by decide +kernel
theorem dM_constant_17 : decode cM_constant 17 = .ok (.if_icmp .le 14, 3) := by decide +kernel
theorem dM_constant_20 : decode cM_constant 20 = .ok (.iload_n 1, 1) := by decide +kernel
theorem dM_constant_21 : decode cM_constant 21 = .ok (.sipush 256, 3) := by decide +kernel
theorem dM_constant_24 : decode cM_constant 24 = .ok (.isub, 1) := by decide +kernel
theorem dM_constant_25 : decode cM_constant 25 = .ok (.bipush 113, 2) := by decide +kernel
theorem dM_constant_27 : decode cM_constant 27 = .ok (.ixor, 1) := by decide +kernel
theorem dM_constant_28 : decode cM_constant 28 = .ok (.goto 4, 3) := by decide +kernel
theorem dM_constant_31 : decode cM_constant 31 = .ok (.iload_n 1, 1) := by decide +kernel
theorem dM_constant_32 : decode cM_constant 32 = .ok (.istore_n 1, 1) := by decide +kernel
theorem dM_constant_33 : decode cM_constant 33 = .ok (.iinc 2 1, 3) := by decide +kernel
theorem dM_constant_36 : decode cM_constant 36 = .ok (.goto (-32), 3) := by decide +kernel
theorem dM_constant_39 : decode cM_constant 39 = .ok (.iload_n 1, 1) := by decide +kernel
theorem dM_constant_40 : decode cM_constant 40 = .ok (.iconst 2, 1) := by decide +kernel
theorem dM_constant_41 : decode cM_constant 41 = .ok (.irem, 1) := by decide +kernel
theorem dM_constant_42 : decode cM_constant 42 = .ok (.iconst 1, 1) := by decide +kernel
theorem dM_constant_43 : decode cM_constant 43 = .ok (.if_icmp .ne 7, 3) := by decide +kernel
theorem dM_constant_46 : decode cM_constant 46 = .ok (.iconst 1, 1) := by decide +kernel
theorem dM_constant_47 : decode cM_constant 47 = .ok (.goto 4, 3) := by decide +kernel
theorem dM_constant_50 : decode cM_constant 50 = .ok (.iconst 0, 1) := by decide +kernel
theorem dM_constant_51 : decode cM_constant 51 = .ok (.ireturn, 1) := by decide +kernel
theorem dM_permute_0 : decode cM_permute 0 = .ok (.iconst 0, 1) := by decide +kernel
theorem dM_permute_1 : decode cM_permute 1 = .ok (.istore_n 2, 1) := by decide +kernel
theorem dM_permute_2 : decode cM_permute 2 = .ok (.iload_n 2, 1) := by decide +kernel
theorem dM_permute_3 : decode cM_permute 3 = .ok (.sipush 1600, 3) := by decide +kernel
theorem dM_permute_6 : decode cM_permute 6 = .ok (.if_icmp .ge 27, 3) := by decide +kernel
theorem dM_permute_9 : decode cM_permute 9 = .ok (.aload_n 0, 1) := by decide +kernel
theorem dM_permute_10 : decode cM_permute 10 = .ok (.getfield 41, 3) := by decide +kernel
theorem dM_permute_13 : decode cM_permute 13 = .ok (.iload_n 2, 1) := by decide +kernel
theorem dM_permute_14 : decode cM_permute 14 = .ok (.aload_n 0, 1) := by decide +kernel
theorem dM_permute_15 : decode cM_permute 15 = .ok (.getfield 19, 3) := by decide +kernel
theorem dM_permute_18 : decode cM_permute 18 = .ok (.sipush 1600, 3) := by decide +kernel
theorem dM_permute_21 : decode cM_permute 21 = .ok (.iload_n 1, 1) := by decide +kernel
theorem dM_permute_22 : decode cM_permute 22 = .ok (.imul, 1) := by decide +kernel
theorem dM_permute_23 : decode cM_permute 23 = .ok (.iload_n 2, 1) := by decide +kernel
theorem dM_permute_24 : decode cM_permute 24 = .ok (.iadd, 1) := by decide +kernel
theorem dM_permute_25 : decode cM_permute 25 = .ok (.baload, 1) := by decide +kernel
theorem dM_permute_26 : decode cM_permute 26 = .ok (.bastore, 1) := by decide +kernel
theorem dM_permute_27 : decode cM_permute 27 = .ok (.iinc 2 1, 3) := by decide +kernel
theorem dM_permute_30 : decode cM_permute 30 = .ok (.goto (-28), 3) := by decide +kernel
theorem dM_permute_33 : decode cM_permute 33 = .ok (.iconst 0, 1) := by decide +kernel
theorem dM_permute_34 : decode cM_permute 34 = .ok (.istore_n 2, 1) := by decide +kernel
theorem dM_permute_35 : decode cM_permute 35 = .ok (.iload_n 2, 1) := by decide +kernel
theorem dM_permute_36 : decode cM_permute 36 = .ok (.bipush 24, 2) := by decide +kernel
theorem dM_permute_38 : decode cM_permute 38 = .ok (.if_icmp .ge 77, 3) := by decide +kernel
theorem dM_permute_41 : decode cM_permute 41 = .ok (.aload_n 0, 1) := by decide +kernel
theorem dM_permute_42 : decode cM_permute 42 = .ok (.invokevirtual 66, 3) := by decide +kernel
theorem dM_permute_45 : decode cM_permute 45 = .ok (.aload_n 0, 1) := by decide +kernel
theorem dM_permute_46 : decode cM_permute 46 = .ok (.invokevirtual 69, 3) := by decide +kernel
theorem dM_permute_49 : decode cM_permute 49 = .ok (.aload_n 0, 1) := by decide +kernel
theorem dM_permute_50 : decode cM_permute 50 = .ok (.invokevirtual 72, 3) := by decide +kernel
theorem dM_permute_53 : decode cM_permute 53 = .ok (.aload_n 0, 1) := by decide +kernel
theorem dM_permute_54 : decode cM_permute 54 = .ok (.invokevirtual 75, 3) := by decide +kernel
theorem dM_permute_57 : decode cM_permute 57 = .ok (.iconst 0, 1) := by decide +kernel
theorem dM_permute_58 : decode cM_permute 58 = .ok (.istore_n 3, 1) := by decide +kernel
theorem dM_permute_59 : decode cM_permute 59 = .ok (.iload_n 3, 1) := by decide +kernel
theorem dM_permute_60 : decode cM_permute 60 = .ok (.bipush 7, 2) := by decide +kernel
theorem dM_permute_62 : decode cM_permute 62 = .ok (.if_icmp .ge 47, 3) := by decide +kernel
theorem dM_permute_65 : decode cM_permute 65 = .ok (.iconst 1, 1) := by decide +kernel
theorem dM_permute_66 : decode cM_permute 66 = .ok (.iload_n 3, 1) := by decide +kernel
theorem dM_permute_67 : decode cM_permute 67 = .ok (.ishl, 1) := by decide +kernel
theorem dM_permute_68 : decode cM_permute 68 = .ok (.iconst 1, 1) := by decide +kernel
theorem dM_permute_69 : decode cM_permute 69 = .ok (.isub, 1) := by decide +kernel
theorem dM_permute_70 : decode cM_permute 70 = .ok (.istore 4, 2) := by decide +kernel
theorem dM_permute_72 : decode cM_permute 72 = .ok (.aload_n 0, 1) := by decide +kernel
theorem dM_permute_73 : decode cM_permute 73 = .ok (.getfield 41, 3) := by decide +kernel
theorem dM_permute_76 : decode cM_permute 76 = .ok (.iload 4, 2) := by decide +kernel
theorem dM_permute_78 : decode cM_permute 78 = .ok (.aload_n 0, 1) := by decide +kernel
theorem dM_permute_79 : decode cM_permute 79 = .ok (.getfield 41, 3) := by decide +kernel
theorem dM_permute_82 : decode cM_permute 82 = .ok (.iload 4, 2) := by decide +kernel
theorem dM_permute_84 : decode cM_permute 84 = .ok (.baload, 1) := by decide +kernel
theorem dM_permute_85 : decode cM_permute 85 = .ok (.bipush 7, 2) := by decide +kernel
theorem dM_permute_87 : decode cM_permute 87 = .ok (.iload_n 2, 1) := by decide +kernel
theorem dM_permute_88 : decode cM_permute 88 = .ok (.imul, 1) := by decide +kernel
theorem dM_permute_89 : decode cM_permute 89 = .ok (.iload_n 3, 1) := by decide +kernel
theorem dM_permute_90 : decode cM_permute 90 = .ok (.iadd, 1) := by decide +kernel
theorem dM_permute_91 : decode cM_permute 91 = .ok (.invokestatic 78, 3) := by decide +kernel
theorem dM_permute_94 : decode cM_permute 94 = .ok (.if_icmp .eq 7, 3) := by decide +kernel
theorem dM_permute_97 : decode cM_permute 97 = .ok (.iconst 1, 1) := by decide +kernel
theorem dM_permute_98 : decode cM_permute 98 = .ok (.goto 4, 3) := by decide +kernel
theorem dM_permute_101 : decode cM_permute 101 = .ok (.iconst 0, 1) := by decide +kernel
theorem dM_permute_102 : decode cM_permute 102 = .ok (.bastore, 1) := by decide +kernel
theorem dM_permute_103 : decode cM_permute 103 = .ok (.iinc 3 1, 3) := by decide +kernel
theorem dM_permute_106 : decode cM_permute 106 = .ok (.goto (-47), 3) := by decide +kernel
theorem dM_permute_109 : decode cM_permute 109 = .ok (.iinc 2 1, 3) := by decide +kernel
theorem dM_permute_112 : decode cM_permute 112 = .ok (.goto (-77), 3) := by decide +kernel
theorem dM_permute_115 : decode cM_permute 115 = .ok (.iconst 0, 1) := by decide +kernel
theorem dM_permute_116 : decode cM_permute 116 = .ok (.istore_n 2, 1) := by decide +kernel
theorem dM_permute_117 : decode cM_permute 117 = .ok (.iload_n 2, 1) := by decide +kernel
theorem dM_permute_118 : decode cM_permute 118 = .ok (.sipush 1600, 3) := by decide +kernel
theorem dM_permute_121 : decode cM_permute 121 = .ok (.if_icmp .ge 27, 3) := by decide +kernel
theorem dM_permute_124 : decode cM_permute 124 = .ok (.aload_n 0, 1) := by decide +kernel
theorem dM_permute_125 : decode cM_permute 125 = .ok (.getfield 19, 3) := by decide +kernel
theorem dM_permute_128 : decode cM_permute 128 = .ok (.sipush 1600, 3) := by decide +kernel
theorem dM_permute_131 : decode cM_permute 131 = .ok (.iload_n 1, 1) := by decide +kernel
theorem dM_permute_132 : decode cM_permute 132 = .ok (.imul, 1) := by decide +kernel
theorem dM_permute_133 : decode cM_permute 133 = .ok (.iload_n 2, 1) := by decide +kernel
theorem dM_permute_134 : decode cM_permute 134 = .ok (.iadd, 1) := by decide +kernel
theorem dM_permute_135 : decode cM_permute 135 = .ok (.aload_n 0, 1) := by decide +kernel
theorem dM_permute_136 : decode cM_permute 136 = .ok (.getfield 41, 3) := by decide +kernel
theorem dM_permute_139 : decode cM_permute 139 = .ok (.iload_n 2, 1) := by decide +kernel
theorem dM_permute_140 : decode cM_permute 140 = .ok (.baload, 1) := by decide +kernel
theorem dM_permute_141 : decode cM_permute 141 = .ok (.bastore, 1) := by decide +kernel
theorem dM_permute_142 : decode cM_permute 142 = .ok (.iinc 2 1, 3) := by decide +kernel
theorem dM_permute_145 : decode cM_permute 145 = .ok (.goto (-28), 3) := by decide +kernel
theorem dM_permute_148 : decode cM_permute 148 = .ok (.return_, 1) := by decide +kernel
theorem dM_widthOf_0 : decode cM_widthOf 0 = .ok (.iload_n 0, 1) := by decide +kernel
theorem dM_widthOf_1 : decode cM_widthOf 1 = .ok (.iconst 4, 1) := by decide +kernel
theorem dM_widthOf_2 : decode cM_widthOf 2 = .ok (.if_icmp .ge 37, 3) := by decide +kernel
theorem dM_widthOf_5 : decode cM_widthOf 5 = .ok (.iload_n 0, 1) := by decide +kernel
theorem dM_widthOf_6 : decode cM_widthOf 6 = .ok (.ifCond .ne 9, 3) := by decide +kernel
theorem dM_widthOf_9 : decode cM_widthOf 9 = .ok (.sipush 144, 3) := by decide +kernel
theorem dM_widthOf_12 : decode cM_widthOf 12 = .ok (.goto 26, 3) := by decide +kernel
theorem dM_widthOf_15 : decode cM_widthOf 15 = .ok (.iload_n 0, 1) := by decide +kernel
theorem dM_widthOf_16 : decode cM_widthOf 16 = .ok (.iconst 1, 1) := by decide +kernel
theorem dM_widthOf_17 : decode cM_widthOf 17 = .ok (.if_icmp .ne 9, 3) := by decide +kernel
theorem dM_widthOf_20 : decode cM_widthOf 20 = .ok (.sipush 136, 3) := by decide +kernel
theorem dM_widthOf_23 : decode cM_widthOf 23 = .ok (.goto 15, 3) := by decide +kernel
theorem dM_widthOf_26 : decode cM_widthOf 26 = .ok (.iload_n 0, 1) := by decide +kernel
theorem dM_widthOf_27 : decode cM_widthOf 27 = .ok (.iconst 2, 1) := by decide +kernel
theorem dM_widthOf_28 : decode cM_widthOf 28 = .ok (.if_icmp .ne 8, 3) := by decide +kernel
theorem dM_widthOf_31 : decode cM_widthOf 31 = .ok (.bipush 104, 2) := by decide +kernel
theorem dM_widthOf_33 : decode cM_widthOf 33 = .ok (.goto 5, 3) := by decide +kernel
theorem dM_widthOf_36 : decode cM_widthOf 36 = .ok (.bipush 72, 2) := by decide +kernel
theorem dM_widthOf_38 : decode cM_widthOf 38 = .ok (.ireturn, 1) := by decide +kernel
theorem dM_widthOf_39 : decode cM_widthOf 39 = .ok (.iload_n 0, 1) := by decide +kernel
theorem dM_widthOf_40 : decode cM_widthOf 40 = .ok (.iconst 2, 1) := by decide +kernel
theorem dM_widthOf_41 : decode cM_widthOf 41 = .ok (.irem, 1) := by decide +kernel
theorem dM_widthOf_42 : decode cM_widthOf 42 = .ok (.ifCond .ne 9, 3) := by decide +kernel
theorem dM_widthOf_45 : decode cM_widthOf 45 = .ok (.sipush 168, 3) := by decide +kernel
theorem dM_widthOf_48 : decode cM_widthOf 48 = .ok (.goto 6, 3) := by decide +kernel
theorem dM_widthOf_51 : decode cM_widthOf 51 = .ok (.sipush 136, 3) := by decide +kernel
theorem dM_widthOf_54 : decode cM_widthOf 54 = .ok (.ireturn, 1) := by decide +kernel
theorem dM_lengthOf_0 : decode cM_lengthOf 0 = .ok (.iload_n 0, 1) := by decide +kernel
theorem dM_lengthOf_1 : decode cM_lengthOf 1 = .ok (.ifCond .ne 8, 3) := by decide +kernel
theorem dM_lengthOf_4 : decode cM_lengthOf 4 = .ok (.bipush 28, 2) := by decide +kernel
theorem dM_lengthOf_6 : decode cM_lengthOf 6 = .ok (.goto 34, 3) := by decide +kernel
theorem dM_lengthOf_9 : decode cM_lengthOf 9 = .ok (.iload_n 0, 1) := by decide +kernel
theorem dM_lengthOf_10 : decode cM_lengthOf 10 = .ok (.iconst 1, 1) := by decide +kernel
theorem dM_lengthOf_11 : decode cM_lengthOf 11 = .ok (.if_icmp .ne 8, 3) := by decide +kernel
theorem dM_lengthOf_14 : decode cM_lengthOf 14 = .ok (.bipush 32, 2) := by decide +kernel
theorem dM_lengthOf_16 : decode cM_lengthOf 16 = .ok (.goto 24, 3) := by decide +kernel
theorem dM_lengthOf_19 : decode cM_lengthOf 19 = .ok (.iload_n 0, 1) := by decide +kernel
theorem dM_lengthOf_20 : decode cM_lengthOf 20 = .ok (.iconst 2, 1) := by decide +kernel
theorem dM_lengthOf_21 : decode cM_lengthOf 21 = .ok (.if_icmp .ne 8, 3) := by decide +kernel
theorem dM_lengthOf_24 : decode cM_lengthOf 24 = .ok (.bipush 48, 2) := by decide +kernel
theorem dM_lengthOf_26 : decode cM_lengthOf 26 = .ok (.goto 14, 3) := by decide +kernel
theorem dM_lengthOf_29 : decode cM_lengthOf 29 = .ok (.iload_n 0, 1) := by decide +kernel
theorem dM_lengthOf_30 : decode cM_lengthOf 30 = .ok (.iconst 3, 1) := by decide +kernel
theorem dM_lengthOf_31 : decode cM_lengthOf 31 = .ok (.if_icmp .ne 8, 3) := by decide +kernel
theorem dM_lengthOf_34 : decode cM_lengthOf 34 = .ok (.bipush 64, 2) := by decide +kernel
theorem dM_lengthOf_36 : decode cM_lengthOf 36 = .ok (.goto 4, 3) := by decide +kernel
theorem dM_lengthOf_39 : decode cM_lengthOf 39 = .ok (.iconst 0, 1) := by decide +kernel
theorem dM_lengthOf_40 : decode cM_lengthOf 40 = .ok (.ireturn, 1) := by decide +kernel
theorem dM_hasLength_0 : decode cM_hasLength 0 = .ok (.iload_n 0, 1) := by decide +kernel
theorem dM_hasLength_1 : decode cM_hasLength 1 = .ok (.bipush 8, 2) := by decide +kernel
theorem dM_hasLength_3 : decode cM_hasLength 3 = .ok (.if_icmp .eq 21, 3) := by decide +kernel
theorem dM_hasLength_6 : decode cM_hasLength 6 = .ok (.iload_n 0, 1) := by decide +kernel
theorem dM_hasLength_7 : decode cM_hasLength 7 = .ok (.bipush 9, 2) := by decide +kernel
theorem dM_hasLength_9 : decode cM_hasLength 9 = .ok (.if_icmp .eq 15, 3) := by decide +kernel
theorem dM_hasLength_12 : decode cM_hasLength 12 = .ok (.iload_n 0, 1) := by decide +kernel
theorem dM_hasLength_13 : decode cM_hasLength 13 = .ok (.bipush 12, 2) := by decide +kernel
theorem dM_hasLength_15 : decode cM_hasLength 15 = .ok (.if_icmp .eq 9, 3) := by decide +kernel
theorem dM_hasLength_18 : decode cM_hasLength 18 = .ok (.iload_n 0, 1) := by decide +kernel
theorem dM_hasLength_19 : decode cM_hasLength 19 = .ok (.bipush 13, 2) := by decide +kernel
theorem dM_hasLength_21 : decode cM_hasLength 21 = .ok (.if_icmp .ne 7, 3) := by decide +kernel
theorem dM_hasLength_24 : decode cM_hasLength 24 = .ok (.iconst 1, 1) := by decide +kernel
theorem dM_hasLength_25 : decode cM_hasLength 25 = .ok (.goto 4, 3) := by decide +kernel
theorem dM_hasLength_28 : decode cM_hasLength 28 = .ok (.iconst 0, 1) := by decide +kernel
theorem dM_hasLength_29 : decode cM_hasLength 29 = .ok (.ireturn, 1) := by decide +kernel
theorem dM_meet_0 : decode cM_meet 0 = .ok (.iconst 0, 1) := by decide +kernel
theorem dM_meet_1 : decode cM_meet 1 = .ok (.istore 4, 2) := by decide +kernel
theorem dM_meet_3 : decode cM_meet 3 = .ok (.iload 4, 2) := by decide +kernel
theorem dM_meet_5 : decode cM_meet 5 = .ok (.bipush 8, 2) := by decide +kernel
theorem dM_meet_7 : decode cM_meet 7 = .ok (.if_icmp .ge 61, 3) := by decide +kernel
theorem dM_meet_10 : decode cM_meet 10 = .ok (.sipush 1600, 3) := by decide +kernel
theorem dM_meet_13 : decode cM_meet 13 = .ok (.iload_n 1, 1) := by decide +kernel
theorem dM_meet_14 : decode cM_meet 14 = .ok (.imul, 1) := by decide +kernel
theorem dM_meet_15 : decode cM_meet 15 = .ok (.bipush 8, 2) := by decide +kernel
theorem dM_meet_17 : decode cM_meet 17 = .ok (.iload_n 2, 1) := by decide +kernel
theorem dM_meet_18 : decode cM_meet 18 = .ok (.imul, 1) := by decide +kernel
theorem dM_meet_19 : decode cM_meet 19 = .ok (.iadd, 1) := by decide +kernel
theorem dM_meet_20 : decode cM_meet 20 = .ok (.iload 4, 2) := by decide +kernel
theorem dM_meet_22 : decode cM_meet 22 = .ok (.iadd, 1) := by decide +kernel
theorem dM_meet_23 : decode cM_meet 23 = .ok (.istore 5, 2) := by decide +kernel
theorem dM_meet_25 : decode cM_meet 25 = .ok (.aload_n 0, 1) := by decide +kernel
theorem dM_meet_26 : decode cM_meet 26 = .ok (.getfield 19, 3) := by decide +kernel
theorem dM_meet_29 : decode cM_meet 29 = .ok (.iload 5, 2) := by decide +kernel
theorem dM_meet_31 : decode cM_meet 31 = .ok (.aload_n 0, 1) := by decide +kernel
theorem dM_meet_32 : decode cM_meet 32 = .ok (.getfield 19, 3) := by decide +kernel
theorem dM_meet_35 : decode cM_meet 35 = .ok (.iload 5, 2) := by decide +kernel
theorem dM_meet_37 : decode cM_meet 37 = .ok (.baload, 1) := by decide +kernel
theorem dM_meet_38 : decode cM_meet 38 = .ok (.iload_n 3, 1) := by decide +kernel
theorem dM_meet_39 : decode cM_meet 39 = .ok (.iload 4, 2) := by decide +kernel
theorem dM_meet_41 : decode cM_meet 41 = .ok (.ishr, 1) := by decide +kernel
theorem dM_meet_42 : decode cM_meet 42 = .ok (.iconst 1, 1) := by decide +kernel
theorem dM_meet_43 : decode cM_meet 43 = .ok (.iand, 1) := by decide +kernel
theorem dM_meet_44 : decode cM_meet 44 = .ok (.iconst 1, 1) := by decide +kernel
theorem dM_meet_45 : decode cM_meet 45 = .ok (.if_icmp .ne 7, 3) := by decide +kernel
theorem dM_meet_48 : decode cM_meet 48 = .ok (.iconst 1, 1) := by decide +kernel
theorem dM_meet_49 : decode cM_meet 49 = .ok (.goto 4, 3) := by decide +kernel
theorem dM_meet_52 : decode cM_meet 52 = .ok (.iconst 0, 1) := by decide +kernel
theorem dM_meet_53 : decode cM_meet 53 = .ok (.if_icmp .eq 7, 3) := by decide +kernel
theorem dM_meet_56 : decode cM_meet 56 = .ok (.iconst 1, 1) := by decide +kernel
theorem dM_meet_57 : decode cM_meet 57 = .ok (.goto 4, 3) := by decide +kernel
theorem dM_meet_60 : decode cM_meet 60 = .ok (.iconst 0, 1) := by decide +kernel
theorem dM_meet_61 : decode cM_meet 61 = .ok (.bastore, 1) := by decide +kernel
theorem dM_meet_62 : decode cM_meet 62 = .ok (.iinc 4 1, 3) := by decide +kernel
theorem dM_meet_65 : decode cM_meet 65 = .ok (.goto (-62), 3) := by decide +kernel
theorem dM_meet_68 : decode cM_meet 68 = .ok (.return_, 1) := by decide +kernel
theorem dM_comeIn_0 : decode cM_comeIn 0 = .ok (.aload_n 0, 1) := by decide +kernel
theorem dM_comeIn_1 : decode cM_comeIn 1 = .ok (.iload_n 1, 1) := by decide +kernel
theorem dM_comeIn_2 : decode cM_comeIn 2 = .ok (.aload_n 0, 1) := by decide +kernel
theorem dM_comeIn_3 : decode cM_comeIn 3 = .ok (.getfield 26, 3) := by decide +kernel
theorem dM_comeIn_6 : decode cM_comeIn 6 = .ok (.iload_n 1, 1) := by decide +kernel
theorem dM_comeIn_7 : decode cM_comeIn 7 = .ok (.iaload, 1) := by decide +kernel
theorem dM_comeIn_8 : decode cM_comeIn 8 = .ok (.iload_n 2, 1) := by decide +kernel
theorem dM_comeIn_9 : decode cM_comeIn 9 = .ok (.invokevirtual 82, 3) := by decide +kernel
theorem dM_comeIn_12 : decode cM_comeIn 12 = .ok (.aload_n 0, 1) := by decide +kernel
theorem dM_comeIn_13 : decode cM_comeIn 13 = .ok (.getfield 26, 3) := by decide +kernel
theorem dM_comeIn_16 : decode cM_comeIn 16 = .ok (.iload_n 1, 1) := by decide +kernel
theorem dM_comeIn_17 : decode cM_comeIn 17 = .ok (.dup2, 1) := by decide +kernel
theorem dM_comeIn_18 : decode cM_comeIn 18 = .ok (.iaload, 1) := by decide +kernel
theorem dM_comeIn_19 : decode cM_comeIn 19 = .ok (.iconst 1, 1) := by decide +kernel
theorem dM_comeIn_20 : decode cM_comeIn 20 = .ok (.iadd, 1) := by decide +kernel
theorem dM_comeIn_21 : decode cM_comeIn 21 = .ok (.iastore, 1) := by decide +kernel
theorem dM_comeIn_22 : decode cM_comeIn 22 = .ok (.aload_n 0, 1) := by decide +kernel
theorem dM_comeIn_23 : decode cM_comeIn 23 = .ok (.getfield 26, 3) := by decide +kernel
theorem dM_comeIn_26 : decode cM_comeIn 26 = .ok (.iload_n 1, 1) := by decide +kernel
theorem dM_comeIn_27 : decode cM_comeIn 27 = .ok (.iaload, 1) := by decide +kernel
theorem dM_comeIn_28 : decode cM_comeIn 28 = .ok (.aload_n 0, 1) := by decide +kernel
theorem dM_comeIn_29 : decode cM_comeIn 29 = .ok (.getfield 23, 3) := by decide +kernel
theorem dM_comeIn_32 : decode cM_comeIn 32 = .ok (.iload_n 1, 1) := by decide +kernel
theorem dM_comeIn_33 : decode cM_comeIn 33 = .ok (.iaload, 1) := by decide +kernel
theorem dM_comeIn_34 : decode cM_comeIn 34 = .ok (.invokestatic 86, 3) := by decide +kernel
theorem dM_comeIn_37 : decode cM_comeIn 37 = .ok (.if_icmp .ne 15, 3) := by decide +kernel
theorem dM_comeIn_40 : decode cM_comeIn 40 = .ok (.aload_n 0, 1) := by decide +kernel
theorem dM_comeIn_41 : decode cM_comeIn 41 = .ok (.getfield 26, 3) := by decide +kernel
theorem dM_comeIn_44 : decode cM_comeIn 44 = .ok (.iload_n 1, 1) := by decide +kernel
theorem dM_comeIn_45 : decode cM_comeIn 45 = .ok (.iconst 0, 1) := by decide +kernel
theorem dM_comeIn_46 : decode cM_comeIn 46 = .ok (.iastore, 1) := by decide +kernel
theorem dM_comeIn_47 : decode cM_comeIn 47 = .ok (.aload_n 0, 1) := by decide +kernel
theorem dM_comeIn_48 : decode cM_comeIn 48 = .ok (.iload_n 1, 1) := by decide +kernel
theorem dM_comeIn_49 : decode cM_comeIn 49 = .ok (.invokevirtual 90, 3) := by decide +kernel
theorem dM_comeIn_52 : decode cM_comeIn 52 = .ok (.return_, 1) := by decide +kernel
theorem dM_bytesOf_0 : decode cM_bytesOf 0 = .ok (.iconst 1, 1) := by decide +kernel
theorem dM_bytesOf_1 : decode cM_bytesOf 1 = .ok (.istore_n 1, 1) := by decide +kernel
theorem dM_bytesOf_2 : decode cM_bytesOf 2 = .ok (.iload_n 0, 1) := by decide +kernel
theorem dM_bytesOf_3 : decode cM_bytesOf 3 = .ok (.sipush 256, 3) := by decide +kernel
theorem dM_bytesOf_6 : decode cM_bytesOf 6 = .ok (.idiv, 1) := by decide +kernel
theorem dM_bytesOf_7 : decode cM_bytesOf 7 = .ok (.istore_n 2, 1) := by decide +kernel
theorem dM_bytesOf_8 : decode cM_bytesOf 8 = .ok (.iload_n 2, 1) := by decide +kernel
theorem dM_bytesOf_9 : decode cM_bytesOf 9 = .ok (.ifCond .le 15, 3) := by decide +kernel
theorem dM_bytesOf_12 : decode cM_bytesOf 12 = .ok (.iinc 1 1, 3) := by decide +kernel
theorem dM_bytesOf_15 : decode cM_bytesOf 15 = .ok (.iload_n 2, 1) := by decide +kernel
theorem dM_bytesOf_16 : decode cM_bytesOf 16 = .ok (.sipush 256, 3) := by decide +kernel
theorem dM_bytesOf_19 : decode cM_bytesOf 19 = .ok (.idiv, 1) := by decide +kernel
theorem dM_bytesOf_20 : decode cM_bytesOf 20 = .ok (.istore_n 2, 1) := by decide +kernel
theorem dM_bytesOf_21 : decode cM_bytesOf 21 = .ok (.goto (-13), 3) := by decide +kernel
theorem dM_bytesOf_24 : decode cM_bytesOf 24 = .ok (.iload_n 1, 1) := by decide +kernel
theorem dM_bytesOf_25 : decode cM_bytesOf 25 = .ok (.ireturn, 1) := by decide +kernel
theorem dM_number_0 : decode cM_number 0 = .ok (.iload_n 2, 1) := by decide +kernel
theorem dM_number_1 : decode cM_number 1 = .ok (.invokestatic 94, 3) := by decide +kernel
theorem dM_number_4 : decode cM_number 4 = .ok (.iconst 1, 1) := by decide +kernel
theorem dM_number_5 : decode cM_number 5 = .ok (.isub, 1) := by decide +kernel
theorem dM_number_6 : decode cM_number 6 = .ok (.istore_n 3, 1) := by decide +kernel
theorem dM_number_7 : decode cM_number 7 = .ok (.iload_n 3, 1) := by decide +kernel
theorem dM_number_8 : decode cM_number 8 = .ok (.ifCond .lt 24, 3) := by decide +kernel
theorem dM_number_11 : decode cM_number 11 = .ok (.aload_n 0, 1) := by decide +kernel
theorem dM_number_12 : decode cM_number 12 = .ok (.iload_n 1, 1) := by decide +kernel
theorem dM_number_13 : decode cM_number 13 = .ok (.iload_n 2, 1) := by decide +kernel
theorem dM_number_14 : decode cM_number 14 = .ok (.bipush 8, 2) := by decide +kernel
theorem dM_number_16 : decode cM_number 16 = .ok (.iload_n 3, 1) := by decide +kernel
theorem dM_number_17 : decode cM_number 17 = .ok (.imul, 1) := by decide +kernel
theorem dM_number_18 : decode cM_number 18 = .ok (.ishr, 1) := by decide +kernel
theorem dM_number_19 : decode cM_number 19 = .ok (.sipush 255, 3) := by decide +kernel
theorem dM_number_22 : decode cM_number 22 = .ok (.iand, 1) := by decide +kernel
theorem dM_number_23 : decode cM_number 23 = .ok (.invokevirtual 97, 3) := by decide +kernel
theorem dM_number_26 : decode cM_number 26 = .ok (.iinc 3 (-1), 3) := by decide +kernel
theorem dM_number_29 : decode cM_number 29 = .ok (.goto (-22), 3) := by decide +kernel
theorem dM_number_32 : decode cM_number 32 = .ok (.return_, 1) := by decide +kernel
theorem dM_leftOf_0 : decode cM_leftOf 0 = .ok (.aload_n 0, 1) := by decide +kernel
theorem dM_leftOf_1 : decode cM_leftOf 1 = .ok (.iload_n 1, 1) := by decide +kernel
theorem dM_leftOf_2 : decode cM_leftOf 2 = .ok (.iload_n 2, 1) := by decide +kernel
theorem dM_leftOf_3 : decode cM_leftOf 3 = .ok (.invokestatic 94, 3) := by decide +kernel
theorem dM_leftOf_6 : decode cM_leftOf 6 = .ok (.invokevirtual 97, 3) := by decide +kernel
theorem dM_leftOf_9 : decode cM_leftOf 9 = .ok (.aload_n 0, 1) := by decide +kernel
theorem dM_leftOf_10 : decode cM_leftOf 10 = .ok (.iload_n 1, 1) := by decide +kernel
theorem dM_leftOf_11 : decode cM_leftOf 11 = .ok (.iload_n 2, 1) := by decide +kernel
theorem dM_leftOf_12 : decode cM_leftOf 12 = .ok (.invokevirtual 100, 3) := by decide +kernel
theorem dM_leftOf_15 : decode cM_leftOf 15 = .ok (.return_, 1) := by decide +kernel
theorem dM_string_0 : decode cM_string 0 = .ok (.aload_n 0, 1) := by decide +kernel
theorem dM_string_1 : decode cM_string 1 = .ok (.iload_n 1, 1) := by decide +kernel
theorem dM_string_2 : decode cM_string 2 = .ok (.bipush 8, 2) := by decide +kernel
theorem dM_string_4 : decode cM_string 4 = .ok (.iload 4, 2) := by decide +kernel
theorem dM_string_6 : decode cM_string 6 = .ok (.imul, 1) := by decide +kernel
theorem dM_string_7 : decode cM_string 7 = .ok (.invokevirtual 103, 3) := by decide +kernel
theorem dM_string_10 : decode cM_string 10 = .ok (.iconst 0, 1) := by decide +kernel
theorem dM_string_11 : decode cM_string 11 = .ok (.istore 5, 2) := by decide +kernel
theorem dM_string_13 : decode cM_string 13 = .ok (.iload 5, 2) := by decide +kernel
theorem dM_string_15 : decode cM_string 15 = .ok (.iload 4, 2) := by decide +kernel
theorem dM_string_17 : decode cM_string 17 = .ok (.if_icmp .ge 20, 3) := by decide +kernel
theorem dM_string_20 : decode cM_string 20 = .ok (.aload_n 0, 1) := by decide +kernel
theorem dM_string_21 : decode cM_string 21 = .ok (.iload_n 1, 1) := by decide +kernel
theorem dM_string_22 : decode cM_string 22 = .ok (.aload_n 2, 1) := by decide +kernel
theorem dM_string_23 : decode cM_string 23 = .ok (.iload_n 3, 1) := by decide +kernel
theorem dM_string_24 : decode cM_string 24 = .ok (.iload 5, 2) := by decide +kernel
theorem dM_string_26 : decode cM_string 26 = .ok (.iadd, 1) := by decide +kernel
theorem dM_string_27 : decode cM_string 27 = .ok (.iaload, 1) := by decide +kernel
theorem dM_string_28 : decode cM_string 28 = .ok (.invokevirtual 97, 3) := by decide +kernel
theorem dM_string_31 : decode cM_string 31 = .ok (.iinc 5 1, 3) := by decide +kernel
theorem dM_string_34 : decode cM_string 34 = .ok (.goto (-21), 3) := by decide +kernel
theorem dM_string_37 : decode cM_string 37 = .ok (.return_, 1) := by decide +kernel
theorem dM_fill_0 : decode cM_fill 0 = .ok (.aload_n 0, 1) := by decide +kernel
theorem dM_fill_1 : decode cM_fill 1 = .ok (.getfield 26, 3) := by decide +kernel
theorem dM_fill_4 : decode cM_fill 4 = .ok (.iload_n 1, 1) := by decide +kernel
theorem dM_fill_5 : decode cM_fill 5 = .ok (.iaload, 1) := by decide +kernel
theorem dM_fill_6 : decode cM_fill 6 = .ok (.ifCond .eq 12, 3) := by decide +kernel
theorem dM_fill_9 : decode cM_fill 9 = .ok (.aload_n 0, 1) := by decide +kernel
theorem dM_fill_10 : decode cM_fill 10 = .ok (.iload_n 1, 1) := by decide +kernel
theorem dM_fill_11 : decode cM_fill 11 = .ok (.iconst 0, 1) := by decide +kernel
theorem dM_fill_12 : decode cM_fill 12 = .ok (.invokevirtual 97, 3) := by decide +kernel
theorem dM_fill_15 : decode cM_fill 15 = .ok (.goto (-15), 3) := by decide +kernel
theorem dM_fill_18 : decode cM_fill 18 = .ok (.return_, 1) := by decide +kernel
theorem dM_ownName_0 : decode cM_ownName 0 = .ok (.iload_n 2, 1) := by decide +kernel
theorem dM_ownName_1 : decode cM_ownName 1 = .ok (.ifCond .eq 9, 3) := by decide +kernel
theorem dM_ownName_4 : decode cM_ownName 4 = .ok (.ldc2_w 106, 3) := by decide +kernel
theorem dM_ownName_7 : decode cM_ownName 7 = .ok (.goto 6, 3) := by decide +kernel
theorem dM_ownName_10 : decode cM_ownName 10 = .ok (.ldc2_w 108, 3) := by decide +kernel
theorem dM_ownName_13 : decode cM_ownName 13 = .ok (.lstore_n 3, 1) := by decide +kernel
theorem dM_ownName_14 : decode cM_ownName 14 = .ok (.iload_n 2, 1) := by decide +kernel
theorem dM_ownName_15 : decode cM_ownName 15 = .ok (.ifCond .eq 7, 3) := by decide +kernel
theorem dM_ownName_18 : decode cM_ownName 18 = .ok (.iconst 4, 1) := by decide +kernel
theorem dM_ownName_19 : decode cM_ownName 19 = .ok (.goto 5, 3) := by decide +kernel
theorem dM_ownName_22 : decode cM_ownName 22 = .ok (.bipush 9, 2) := by decide +kernel
theorem dM_ownName_24 : decode cM_ownName 24 = .ok (.istore 5, 2) := by decide +kernel
theorem dM_ownName_26 : decode cM_ownName 26 = .ok (.aload_n 0, 1) := by decide +kernel
theorem dM_ownName_27 : decode cM_ownName 27 = .ok (.iload_n 1, 1) := by decide +kernel
theorem dM_ownName_28 : decode cM_ownName 28 = .ok (.bipush 8, 2) := by decide +kernel
theorem dM_ownName_30 : decode cM_ownName 30 = .ok (.iload 5, 2) := by decide +kernel
theorem dM_ownName_32 : decode cM_ownName 32 = .ok (.imul, 1) := by decide +kernel
theorem dM_ownName_33 : decode cM_ownName 33 = .ok (.invokevirtual 103, 3) := by decide +kernel
theorem dM_ownName_36 : decode cM_ownName 36 = .ok (.iconst 0, 1) := by decide +kernel
theorem dM_ownName_37 : decode cM_ownName 37 = .ok (.istore 6, 2) := by decide +kernel
theorem dM_ownName_39 : decode cM_ownName 39 = .ok (.iload 6, 2) := by decide +kernel
theorem dM_ownName_41 : decode cM_ownName 41 = .ok (.iload 5, 2) := by decide +kernel
theorem dM_ownName_43 : decode cM_ownName 43 = .ok (.if_icmp .ge 38, 3) := by decide +kernel
theorem dM_ownName_46 : decode cM_ownName 46 = .ok (.aload_n 0, 1) := by decide +kernel
theorem dM_ownName_47 : decode cM_ownName 47 = .ok (.iload_n 1, 1) := by decide +kernel
theorem dM_ownName_48 : decode cM_ownName 48 = .ok (.iload 6, 2) := by decide +kernel
theorem dM_ownName_50 : decode cM_ownName 50 = .ok (.bipush 8, 2) := by decide +kernel
theorem dM_ownName_52 : decode cM_ownName 52 = .ok (.if_icmp .ne 8, 3) := by decide +kernel
theorem dM_ownName_55 : decode cM_ownName 55 = .ok (.bipush 104, 2) := by decide +kernel
theorem dM_ownName_57 : decode cM_ownName 57 = .ok (.goto 15, 3) := by decide +kernel
theorem dM_ownName_60 : decode cM_ownName 60 = .ok (.lload_n 3, 1) := by decide +kernel
theorem dM_ownName_61 : decode cM_ownName 61 = .ok (.bipush 8, 2) := by decide +kernel
theorem dM_ownName_63 : decode cM_ownName 63 = .ok (.iload 6, 2) := by decide +kernel
theorem dM_ownName_65 : decode cM_ownName 65 = .ok (.imul, 1) := by decide +kernel
theorem dM_ownName_66 : decode cM_ownName 66 = .ok (.lshr, 1) := by decide +kernel
theorem dM_ownName_67 : decode cM_ownName 67 = .ok (.ldc2_w 110, 3) := by decide +kernel
theorem dM_ownName_70 : decode cM_ownName 70 = .ok (.land, 1) := by decide +kernel
theorem dM_ownName_71 : decode cM_ownName 71 = .ok (.l2i, 1) := by decide +kernel
theorem dM_ownName_72 : decode cM_ownName 72 = .ok (.invokevirtual 97, 3) := by decide +kernel
theorem dM_ownName_75 : decode cM_ownName 75 = .ok (.iinc 6 1, 3) := by decide +kernel
theorem dM_ownName_78 : decode cM_ownName 78 = .ok (.goto (-39), 3) := by decide +kernel
theorem dM_ownName_81 : decode cM_ownName 81 = .ok (.return_, 1) := by decide +kernel
theorem dM_start_0 : decode cM_start 0 = .ok (.iconst 0, 1) := by decide +kernel
theorem dM_start_1 : decode cM_start 1 = .ok (.istore_n 3, 1) := by decide +kernel
theorem dM_start_2 : decode cM_start 2 = .ok (.iload_n 3, 1) := by decide +kernel
theorem dM_start_3 : decode cM_start 3 = .ok (.sipush 1600, 3) := by decide +kernel
theorem dM_start_6 : decode cM_start 6 = .ok (.if_icmp .ge 22, 3) := by decide +kernel
theorem dM_start_9 : decode cM_start 9 = .ok (.aload_n 0, 1) := by decide +kernel
theorem dM_start_10 : decode cM_start 10 = .ok (.getfield 19, 3) := by decide +kernel
theorem dM_start_13 : decode cM_start 13 = .ok (.sipush 1600, 3) := by decide +kernel
theorem dM_start_16 : decode cM_start 16 = .ok (.iload_n 1, 1) := by decide +kernel
theorem dM_start_17 : decode cM_start 17 = .ok (.imul, 1) := by decide +kernel
theorem dM_start_18 : decode cM_start 18 = .ok (.iload_n 3, 1) := by decide +kernel
theorem dM_start_19 : decode cM_start 19 = .ok (.iadd, 1) := by decide +kernel
theorem dM_start_20 : decode cM_start 20 = .ok (.iconst 0, 1) := by decide +kernel
theorem dM_start_21 : decode cM_start 21 = .ok (.bastore, 1) := by decide +kernel
theorem dM_start_22 : decode cM_start 22 = .ok (.iinc 3 1, 3) := by decide +kernel
theorem dM_start_25 : decode cM_start 25 = .ok (.goto (-23), 3) := by decide +kernel
theorem dM_start_28 : decode cM_start 28 = .ok (.aload_n 0, 1) := by decide +kernel
theorem dM_start_29 : decode cM_start 29 = .ok (.getfield 23, 3) := by decide +kernel
theorem dM_start_32 : decode cM_start 32 = .ok (.iload_n 1, 1) := by decide +kernel
theorem dM_start_33 : decode cM_start 33 = .ok (.iload_n 2, 1) := by decide +kernel
theorem dM_start_34 : decode cM_start 34 = .ok (.iastore, 1) := by decide +kernel
theorem dM_start_35 : decode cM_start 35 = .ok (.aload_n 0, 1) := by decide +kernel
theorem dM_start_36 : decode cM_start 36 = .ok (.getfield 26, 3) := by decide +kernel
theorem dM_start_39 : decode cM_start 39 = .ok (.iload_n 1, 1) := by decide +kernel
theorem dM_start_40 : decode cM_start 40 = .ok (.iconst 0, 1) := by decide +kernel
theorem dM_start_41 : decode cM_start 41 = .ok (.iastore, 1) := by decide +kernel
theorem dM_start_42 : decode cM_start 42 = .ok (.aload_n 0, 1) := by decide +kernel
theorem dM_start_43 : decode cM_start 43 = .ok (.getfield 32, 3) := by decide +kernel
theorem dM_start_46 : decode cM_start 46 = .ok (.iload_n 1, 1) := by decide +kernel
theorem dM_start_47 : decode cM_start 47 = .ok (.iconst 0, 1) := by decide +kernel
theorem dM_start_48 : decode cM_start 48 = .ok (.bastore, 1) := by decide +kernel
theorem dM_start_49 : decode cM_start 49 = .ok (.aload_n 0, 1) := by decide +kernel
theorem dM_start_50 : decode cM_start 50 = .ok (.getfield 35, 3) := by decide +kernel
theorem dM_start_53 : decode cM_start 53 = .ok (.iload_n 1, 1) := by decide +kernel
theorem dM_start_54 : decode cM_start 54 = .ok (.iconst 0, 1) := by decide +kernel
theorem dM_start_55 : decode cM_start 55 = .ok (.iastore, 1) := by decide +kernel
theorem dM_start_56 : decode cM_start 56 = .ok (.aload_n 0, 1) := by decide +kernel
theorem dM_start_57 : decode cM_start 57 = .ok (.getfield 38, 3) := by decide +kernel
theorem dM_start_60 : decode cM_start 60 = .ok (.iload_n 1, 1) := by decide +kernel
theorem dM_start_61 : decode cM_start 61 = .ok (.iconst (-1), 1) := by decide +kernel
theorem dM_start_62 : decode cM_start 62 = .ok (.iastore, 1) := by decide +kernel
theorem dM_start_63 : decode cM_start 63 = .ok (.iload_n 2, 1) := by decide +kernel
theorem dM_start_64 : decode cM_start 64 = .ok (.bipush 6, 2) := by decide +kernel
theorem dM_start_66 : decode cM_start 66 = .ok (.if_icmp .eq 9, 3) := by decide +kernel
theorem dM_start_69 : decode cM_start 69 = .ok (.iload_n 2, 1) := by decide +kernel
theorem dM_start_70 : decode cM_start 70 = .ok (.bipush 7, 2) := by decide +kernel
theorem dM_start_72 : decode cM_start 72 = .ok (.if_icmp .ne 23, 3) := by decide +kernel
theorem dM_start_75 : decode cM_start 75 = .ok (.aload_n 0, 1) := by decide +kernel
theorem dM_start_76 : decode cM_start 76 = .ok (.getfield 13, 3) := by decide +kernel
theorem dM_start_79 : decode cM_start 79 = .ok (.iconst 0, 1) := by decide +kernel
theorem dM_start_80 : decode cM_start 80 = .ok (.iaload, 1) := by decide +kernel
theorem dM_start_81 : decode cM_start 81 = .ok (.aload_n 0, 1) := by decide +kernel
theorem dM_start_82 : decode cM_start 82 = .ok (.getfield 13, 3) := by decide +kernel
theorem dM_start_85 : decode cM_start 85 = .ok (.iconst 1, 1) := by decide +kernel
theorem dM_start_86 : decode cM_start 86 = .ok (.iaload, 1) := by decide +kernel
theorem dM_start_87 : decode cM_start 87 = .ok (.iadd, 1) := by decide +kernel
theorem dM_start_88 : decode cM_start 88 = .ok (.ifCond .ne 7, 3) := by decide +kernel
theorem dM_start_91 : decode cM_start 91 = .ok (.iconst 1, 1) := by decide +kernel
theorem dM_start_92 : decode cM_start 92 = .ok (.goto 4, 3) := by decide +kernel
theorem dM_start_95 : decode cM_start 95 = .ok (.iconst 0, 1) := by decide +kernel
theorem dM_start_96 : decode cM_start 96 = .ok (.istore_n 3, 1) := by decide +kernel
theorem dM_start_97 : decode cM_start 97 = .ok (.aload_n 0, 1) := by decide +kernel
theorem dM_start_98 : decode cM_start 98 = .ok (.getfield 29, 3) := by decide +kernel
theorem dM_start_101 : decode cM_start 101 = .ok (.iload_n 1, 1) := by decide +kernel
theorem dM_start_102 : decode cM_start 102 = .ok (.iload_n 2, 1) := by decide +kernel
theorem dM_start_103 : decode cM_start 103 = .ok (.iconst 4, 1) := by decide +kernel
theorem dM_start_104 : decode cM_start 104 = .ok (.if_icmp .ge 8, 3) := by decide +kernel
theorem dM_start_107 : decode cM_start 107 = .ok (.bipush 6, 2) := by decide +kernel
theorem dM_start_109 : decode cM_start 109 = .ok (.goto 19, 3) := by decide +kernel
theorem dM_start_112 : decode cM_start 112 = .ok (.iload_n 2, 1) := by decide +kernel
theorem dM_start_113 : decode cM_start 113 = .ok (.bipush 6, 2) := by decide +kernel
theorem dM_start_115 : decode cM_start 115 = .ok (.if_icmp .lt 7, 3) := by decide +kernel
theorem dM_start_118 : decode cM_start 118 = .ok (.iload_n 3, 1) := by decide +kernel
theorem dM_start_119 : decode cM_start 119 = .ok (.ifCond .eq 8, 3) := by decide +kernel
theorem dM_start_122 : decode cM_start 122 = .ok (.bipush 31, 2) := by decide +kernel
theorem dM_start_124 : decode cM_start 124 = .ok (.goto 4, 3) := by decide +kernel
theorem dM_start_127 : decode cM_start 127 = .ok (.iconst 4, 1) := by decide +kernel
theorem dM_start_128 : decode cM_start 128 = .ok (.iastore, 1) := by decide +kernel
theorem dM_start_129 : decode cM_start 129 = .ok (.iload_n 2, 1) := by decide +kernel
theorem dM_start_130 : decode cM_start 130 = .ok (.bipush 6, 2) := by decide +kernel
theorem dM_start_132 : decode cM_start 132 = .ok (.if_icmp .lt 7, 3) := by decide +kernel
theorem dM_start_135 : decode cM_start 135 = .ok (.iload_n 3, 1) := by decide +kernel
theorem dM_start_136 : decode cM_start 136 = .ok (.ifCond .eq 4, 3) := by decide +kernel
theorem dM_start_139 : decode cM_start 139 = .ok (.return_, 1) := by decide +kernel
theorem dM_start_140 : decode cM_start 140 = .ok (.aload_n 0, 1) := by decide +kernel
theorem dM_start_141 : decode cM_start 141 = .ok (.iload_n 1, 1) := by decide +kernel
theorem dM_start_142 : decode cM_start 142 = .ok (.iload_n 2, 1) := by decide +kernel
theorem dM_start_143 : decode cM_start 143 = .ok (.invokestatic 86, 3) := by decide +kernel
theorem dM_start_146 : decode cM_start 146 = .ok (.invokevirtual 103, 3) := by decide +kernel
theorem dM_start_149 : decode cM_start 149 = .ok (.iload_n 2, 1) := by decide +kernel
theorem dM_start_150 : decode cM_start 150 = .ok (.bipush 8, 2) := by decide +kernel
theorem dM_start_152 : decode cM_start 152 = .ok (.if_icmp .ge 22, 3) := by decide +kernel
theorem dM_start_155 : decode cM_start 155 = .ok (.aload_n 0, 1) := by decide +kernel
theorem dM_start_156 : decode cM_start 156 = .ok (.iload_n 1, 1) := by decide +kernel
theorem dM_start_157 : decode cM_start 157 = .ok (.aload_n 0, 1) := by decide +kernel
theorem dM_start_158 : decode cM_start 158 = .ok (.getfield 16, 3) := by decide +kernel
theorem dM_start_161 : decode cM_start 161 = .ok (.iconst 0, 1) := by decide +kernel
theorem dM_start_162 : decode cM_start 162 = .ok (.aload_n 0, 1) := by decide +kernel
theorem dM_start_163 : decode cM_start 163 = .ok (.getfield 13, 3) := by decide +kernel
theorem dM_start_166 : decode cM_start 166 = .ok (.iconst 0, 1) := by decide +kernel
theorem dM_start_167 : decode cM_start 167 = .ok (.iaload, 1) := by decide +kernel
theorem dM_start_168 : decode cM_start 168 = .ok (.invokevirtual 112, 3) := by decide +kernel
theorem dM_start_171 : decode cM_start 171 = .ok (.goto 19, 3) := by decide +kernel
theorem dM_start_174 : decode cM_start 174 = .ok (.aload_n 0, 1) := by decide +kernel
theorem dM_start_175 : decode cM_start 175 = .ok (.iload_n 1, 1) := by decide +kernel
theorem dM_start_176 : decode cM_start 176 = .ok (.iload_n 2, 1) := by decide +kernel
theorem dM_start_177 : decode cM_start 177 = .ok (.bipush 12, 2) := by decide +kernel
theorem dM_start_179 : decode cM_start 179 = .ok (.if_icmp .ge 7, 3) := by decide +kernel
theorem dM_start_182 : decode cM_start 182 = .ok (.iconst 1, 1) := by decide +kernel
theorem dM_start_183 : decode cM_start 183 = .ok (.goto 4, 3) := by decide +kernel
theorem dM_start_186 : decode cM_start 186 = .ok (.iconst 0, 1) := by decide +kernel
theorem dM_start_187 : decode cM_start 187 = .ok (.invokevirtual 116, 3) := by decide +kernel
theorem dM_start_190 : decode cM_start 190 = .ok (.aload_n 0, 1) := by decide +kernel
theorem dM_start_191 : decode cM_start 191 = .ok (.iload_n 1, 1) := by decide +kernel
theorem dM_start_192 : decode cM_start 192 = .ok (.aload_n 0, 1) := by decide +kernel
theorem dM_start_193 : decode cM_start 193 = .ok (.getfield 16, 3) := by decide +kernel
theorem dM_start_196 : decode cM_start 196 = .ok (.sipush 300, 3) := by decide +kernel
theorem dM_start_199 : decode cM_start 199 = .ok (.aload_n 0, 1) := by decide +kernel
theorem dM_start_200 : decode cM_start 200 = .ok (.getfield 13, 3) := by decide +kernel
theorem dM_start_203 : decode cM_start 203 = .ok (.iconst 1, 1) := by decide +kernel
theorem dM_start_204 : decode cM_start 204 = .ok (.iaload, 1) := by decide +kernel
theorem dM_start_205 : decode cM_start 205 = .ok (.invokevirtual 112, 3) := by decide +kernel
theorem dM_start_208 : decode cM_start 208 = .ok (.aload_n 0, 1) := by decide +kernel
theorem dM_start_209 : decode cM_start 209 = .ok (.iload_n 1, 1) := by decide +kernel
theorem dM_start_210 : decode cM_start 210 = .ok (.invokevirtual 120, 3) := by decide +kernel
theorem dM_start_213 : decode cM_start 213 = .ok (.iload_n 2, 1) := by decide +kernel
theorem dM_start_214 : decode cM_start 214 = .ok (.bipush 7, 2) := by decide +kernel
theorem dM_start_216 : decode cM_start 216 = .ok (.if_icmp .le 41, 3) := by decide +kernel
theorem dM_start_219 : decode cM_start 219 = .ok (.iload_n 2, 1) := by decide +kernel
theorem dM_start_220 : decode cM_start 220 = .ok (.bipush 12, 2) := by decide +kernel
theorem dM_start_222 : decode cM_start 222 = .ok (.if_icmp .ge 35, 3) := by decide +kernel
theorem dM_start_225 : decode cM_start 225 = .ok (.aload_n 0, 1) := by decide +kernel
theorem dM_start_226 : decode cM_start 226 = .ok (.iload_n 1, 1) := by decide +kernel
theorem dM_start_227 : decode cM_start 227 = .ok (.iload_n 2, 1) := by decide +kernel
theorem dM_start_228 : decode cM_start 228 = .ok (.invokestatic 86, 3) := by decide +kernel
theorem dM_start_231 : decode cM_start 231 = .ok (.invokevirtual 103, 3) := by decide +kernel
theorem dM_start_234 : decode cM_start 234 = .ok (.aload_n 0, 1) := by decide +kernel
theorem dM_start_235 : decode cM_start 235 = .ok (.iload_n 1, 1) := by decide +kernel
theorem dM_start_236 : decode cM_start 236 = .ok (.aload_n 0, 1) := by decide +kernel
theorem dM_start_237 : decode cM_start 237 = .ok (.getfield 16, 3) := by decide +kernel
theorem dM_start_240 : decode cM_start 240 = .ok (.sipush 600, 3) := by decide +kernel
theorem dM_start_243 : decode cM_start 243 = .ok (.aload_n 0, 1) := by decide +kernel
theorem dM_start_244 : decode cM_start 244 = .ok (.getfield 13, 3) := by decide +kernel
theorem dM_start_247 : decode cM_start 247 = .ok (.iconst 2, 1) := by decide +kernel
theorem dM_start_248 : decode cM_start 248 = .ok (.iaload, 1) := by decide +kernel
theorem dM_start_249 : decode cM_start 249 = .ok (.invokevirtual 112, 3) := by decide +kernel
theorem dM_start_252 : decode cM_start 252 = .ok (.aload_n 0, 1) := by decide +kernel
theorem dM_start_253 : decode cM_start 253 = .ok (.iload_n 1, 1) := by decide +kernel
theorem dM_start_254 : decode cM_start 254 = .ok (.invokevirtual 120, 3) := by decide +kernel
theorem dM_start_257 : decode cM_start 257 = .ok (.return_, 1) := by decide +kernel
theorem dM_isSponge_0 : decode cM_isSponge 0 = .ok (.iload_n 0, 1) := by decide +kernel
theorem dM_isSponge_1 : decode cM_isSponge 1 = .ok (.ifCond .lt 12, 3) := by decide +kernel
theorem dM_isSponge_4 : decode cM_isSponge 4 = .ok (.iload_n 0, 1) := by decide +kernel
theorem dM_isSponge_5 : decode cM_isSponge 5 = .ok (.iconst 4, 1) := by decide +kernel
theorem dM_isSponge_6 : decode cM_isSponge 6 = .ok (.if_icmp .ge 7, 3) := by decide +kernel
theorem dM_isSponge_9 : decode cM_isSponge 9 = .ok (.iconst 1, 1) := by decide +kernel
theorem dM_isSponge_10 : decode cM_isSponge 10 = .ok (.goto 4, 3) := by decide +kernel
theorem dM_isSponge_13 : decode cM_isSponge 13 = .ok (.iconst 0, 1) := by decide +kernel
theorem dM_isSponge_14 : decode cM_isSponge 14 = .ok (.ireturn, 1) := by decide +kernel
theorem dM_feed_0 : decode cM_feed 0 = .ok (.aload_n 0, 1) := by decide +kernel
theorem dM_feed_1 : decode cM_feed 1 = .ok (.iload_n 1, 1) := by decide +kernel
theorem dM_feed_2 : decode cM_feed 2 = .ok (.iconst 1, 1) := by decide +kernel
theorem dM_feed_3 : decode cM_feed 3 = .ok (.if_icmp .lt 9, 3) := by decide +kernel
theorem dM_feed_6 : decode cM_feed 6 = .ok (.iload_n 1, 1) := by decide +kernel
theorem dM_feed_7 : decode cM_feed 7 = .ok (.bipush 8, 2) := by decide +kernel
theorem dM_feed_9 : decode cM_feed 9 = .ok (.if_icmp .le 7, 3) := by decide +kernel
theorem dM_feed_12 : decode cM_feed 12 = .ok (.iconst 1, 1) := by decide +kernel
theorem dM_feed_13 : decode cM_feed 13 = .ok (.goto 4, 3) := by decide +kernel
theorem dM_feed_16 : decode cM_feed 16 = .ok (.iconst 0, 1) := by decide +kernel
theorem dM_feed_17 : decode cM_feed 17 = .ok (.putfield 51, 3) := by decide +kernel
theorem dM_feed_20 : decode cM_feed 20 = .ok (.aload_n 0, 1) := by decide +kernel
theorem dM_feed_21 : decode cM_feed 21 = .ok (.getfield 51, 3) := by decide +kernel
theorem dM_feed_24 : decode cM_feed 24 = .ok (.ifCond .le 5, 3) := by decide +kernel
theorem dM_feed_27 : decode cM_feed 27 = .ok (.iconst 0, 1) := by decide +kernel
theorem dM_feed_28 : decode cM_feed 28 = .ok (.ireturn, 1) := by decide +kernel
theorem dM_feed_29 : decode cM_feed 29 = .ok (.aload_n 0, 1) := by decide +kernel
theorem dM_feed_30 : decode cM_feed 30 = .ok (.getfield 123, 3) := by decide +kernel
theorem dM_feed_33 : decode cM_feed 33 = .ok (.iload_n 1, 1) := by decide +kernel
theorem dM_feed_34 : decode cM_feed 34 = .ok (.iadd, 1) := by decide +kernel
theorem dM_feed_35 : decode cM_feed 35 = .ok (.sipush 300, 3) := by decide +kernel
theorem dM_feed_38 : decode cM_feed 38 = .ok (.if_icmp .le 5, 3) := by decide +kernel
theorem dM_feed_41 : decode cM_feed 41 = .ok (.iconst (-1), 1) := by decide +kernel
theorem dM_feed_42 : decode cM_feed 42 = .ok (.ireturn, 1) := by decide +kernel
theorem dM_feed_43 : decode cM_feed 43 = .ok (.iconst 0, 1) := by decide +kernel
theorem dM_feed_44 : decode cM_feed 44 = .ok (.istore 4, 2) := by decide +kernel
theorem dM_feed_46 : decode cM_feed 46 = .ok (.iload 4, 2) := by decide +kernel
theorem dM_feed_48 : decode cM_feed 48 = .ok (.iload_n 1, 1) := by decide +kernel
theorem dM_feed_49 : decode cM_feed 49 = .ok (.if_icmp .ge 40, 3) := by decide +kernel
theorem dM_feed_52 : decode cM_feed 52 = .ok (.aload_n 0, 1) := by decide +kernel
theorem dM_feed_53 : decode cM_feed 53 = .ok (.getfield 7, 3) := by decide +kernel
theorem dM_feed_56 : decode cM_feed 56 = .ok (.aload_n 0, 1) := by decide +kernel
theorem dM_feed_57 : decode cM_feed 57 = .ok (.getfield 123, 3) := by decide +kernel
theorem dM_feed_60 : decode cM_feed 60 = .ok (.lload_n 2, 1) := by decide +kernel
theorem dM_feed_61 : decode cM_feed 61 = .ok (.bipush 8, 2) := by decide +kernel
theorem dM_feed_63 : decode cM_feed 63 = .ok (.iload 4, 2) := by decide +kernel
theorem dM_feed_65 : decode cM_feed 65 = .ok (.imul, 1) := by decide +kernel
theorem dM_feed_66 : decode cM_feed 66 = .ok (.lshr, 1) := by decide +kernel
theorem dM_feed_67 : decode cM_feed 67 = .ok (.ldc2_w 110, 3) := by decide +kernel
theorem dM_feed_70 : decode cM_feed 70 = .ok (.land, 1) := by decide +kernel
theorem dM_feed_71 : decode cM_feed 71 = .ok (.l2i, 1) := by decide +kernel
theorem dM_feed_72 : decode cM_feed 72 = .ok (.iastore, 1) := by decide +kernel
theorem dM_feed_73 : decode cM_feed 73 = .ok (.aload_n 0, 1) := by decide +kernel
theorem dM_feed_74 : decode cM_feed 74 = .ok (.dup, 1) := by decide +kernel
theorem dM_feed_75 : decode cM_feed 75 = .ok (.getfield 123, 3) := by decide +kernel
theorem dM_feed_78 : decode cM_feed 78 = .ok (.iconst 1, 1) := by decide +kernel
theorem dM_feed_79 : decode cM_feed 79 = .ok (.iadd, 1) := by decide +kernel
theorem dM_feed_80 : decode cM_feed 80 = .ok (.putfield 123, 3) := by decide +kernel
theorem dM_feed_83 : decode cM_feed 83 = .ok (.iinc 4 1, 3) := by decide +kernel
theorem dM_feed_86 : decode cM_feed 86 = .ok (.goto (-40), 3) := by decide +kernel
theorem dM_feed_89 : decode cM_feed 89 = .ok (.aload_n 0, 1) := by decide +kernel
theorem dM_feed_90 : decode cM_feed 90 = .ok (.getfield 123, 3) := by decide +kernel
theorem dM_feed_93 : decode cM_feed 93 = .ok (.ireturn, 1) := by decide +kernel
theorem dM_wipe_0 : decode cM_wipe 0 = .ok (.aload_n 0, 1) := by decide +kernel
theorem dM_wipe_1 : decode cM_wipe 1 = .ok (.iconst 0, 1) := by decide +kernel
theorem dM_wipe_2 : decode cM_wipe 2 = .ok (.putfield 51, 3) := by decide +kernel
theorem dM_wipe_5 : decode cM_wipe 5 = .ok (.aload_n 0, 1) := by decide +kernel
theorem dM_wipe_6 : decode cM_wipe 6 = .ok (.getfield 123, 3) := by decide +kernel
theorem dM_wipe_9 : decode cM_wipe 9 = .ok (.istore_n 1, 1) := by decide +kernel
theorem dM_wipe_10 : decode cM_wipe 10 = .ok (.aload_n 0, 1) := by decide +kernel
theorem dM_wipe_11 : decode cM_wipe 11 = .ok (.iconst 0, 1) := by decide +kernel
theorem dM_wipe_12 : decode cM_wipe 12 = .ok (.putfield 123, 3) := by decide +kernel
theorem dM_wipe_15 : decode cM_wipe 15 = .ok (.iload_n 1, 1) := by decide +kernel
theorem dM_wipe_16 : decode cM_wipe 16 = .ok (.ireturn, 1) := by decide +kernel
theorem dM_let_0 : decode cM_let 0 = .ok (.aload_n 0, 1) := by decide +kernel
theorem dM_let_1 : decode cM_let 1 = .ok (.iload_n 1, 1) := by decide +kernel
theorem dM_let_2 : decode cM_let 2 = .ok (.ifCond .lt 8, 3) := by decide +kernel
theorem dM_let_5 : decode cM_let 5 = .ok (.iload_n 1, 1) := by decide +kernel
theorem dM_let_6 : decode cM_let 6 = .ok (.iconst 2, 1) := by decide +kernel
theorem dM_let_7 : decode cM_let 7 = .ok (.if_icmp .le 7, 3) := by decide +kernel
theorem dM_let_10 : decode cM_let 10 = .ok (.iconst 1, 1) := by decide +kernel
theorem dM_let_11 : decode cM_let 11 = .ok (.goto 4, 3) := by decide +kernel
theorem dM_let_14 : decode cM_let 14 = .ok (.iconst 0, 1) := by decide +kernel
theorem dM_let_15 : decode cM_let 15 = .ok (.putfield 51, 3) := by decide +kernel
theorem dM_let_18 : decode cM_let 18 = .ok (.aload_n 0, 1) := by decide +kernel
theorem dM_let_19 : decode cM_let 19 = .ok (.getfield 51, 3) := by decide +kernel
theorem dM_let_22 : decode cM_let 22 = .ok (.ifCond .le 5, 3) := by decide +kernel
theorem dM_let_25 : decode cM_let 25 = .ok (.iconst 0, 1) := by decide +kernel
theorem dM_let_26 : decode cM_let 26 = .ok (.ireturn, 1) := by decide +kernel
theorem dM_let_27 : decode cM_let 27 = .ok (.iconst 0, 1) := by decide +kernel
theorem dM_let_28 : decode cM_let 28 = .ok (.istore_n 2, 1) := by decide +kernel
theorem dM_let_29 : decode cM_let 29 = .ok (.iload_n 2, 1) := by decide +kernel
theorem dM_let_30 : decode cM_let 30 = .ok (.aload_n 0, 1) := by decide +kernel
theorem dM_let_31 : decode cM_let 31 = .ok (.getfield 123, 3) := by decide +kernel
theorem dM_let_34 : decode cM_let 34 = .ok (.if_icmp .ge 27, 3) := by decide +kernel
theorem dM_let_37 : decode cM_let 37 = .ok (.aload_n 0, 1) := by decide +kernel
theorem dM_let_38 : decode cM_let 38 = .ok (.getfield 16, 3) := by decide +kernel
theorem dM_let_41 : decode cM_let 41 = .ok (.sipush 300, 3) := by decide +kernel
theorem dM_let_44 : decode cM_let 44 = .ok (.iload_n 1, 1) := by decide +kernel
theorem dM_let_45 : decode cM_let 45 = .ok (.imul, 1) := by decide +kernel
theorem dM_let_46 : decode cM_let 46 = .ok (.iload_n 2, 1) := by decide +kernel
theorem dM_let_47 : decode cM_let 47 = .ok (.iadd, 1) := by decide +kernel
theorem dM_let_48 : decode cM_let 48 = .ok (.aload_n 0, 1) := by decide +kernel
theorem dM_let_49 : decode cM_let 49 = .ok (.getfield 7, 3) := by decide +kernel
theorem dM_let_52 : decode cM_let 52 = .ok (.iload_n 2, 1) := by decide +kernel
theorem dM_let_53 : decode cM_let 53 = .ok (.iaload, 1) := by decide +kernel
theorem dM_let_54 : decode cM_let 54 = .ok (.iastore, 1) := by decide +kernel
theorem dM_let_55 : decode cM_let 55 = .ok (.iinc 2 1, 3) := by decide +kernel
theorem dM_let_58 : decode cM_let 58 = .ok (.goto (-29), 3) := by decide +kernel
theorem dM_let_61 : decode cM_let 61 = .ok (.aload_n 0, 1) := by decide +kernel
theorem dM_let_62 : decode cM_let 62 = .ok (.getfield 13, 3) := by decide +kernel
theorem dM_let_65 : decode cM_let 65 = .ok (.iload_n 1, 1) := by decide +kernel
theorem dM_let_66 : decode cM_let 66 = .ok (.aload_n 0, 1) := by decide +kernel
theorem dM_let_67 : decode cM_let 67 = .ok (.getfield 123, 3) := by decide +kernel
theorem dM_let_70 : decode cM_let 70 = .ok (.iastore, 1) := by decide +kernel
theorem dM_let_71 : decode cM_let 71 = .ok (.aload_n 0, 1) := by decide +kernel
theorem dM_let_72 : decode cM_let 72 = .ok (.iconst 0, 1) := by decide +kernel
theorem dM_let_73 : decode cM_let 73 = .ok (.putfield 123, 3) := by decide +kernel
theorem dM_let_76 : decode cM_let 76 = .ok (.aload_n 0, 1) := by decide +kernel
theorem dM_let_77 : decode cM_let 77 = .ok (.getfield 13, 3) := by decide +kernel
theorem dM_let_80 : decode cM_let 80 = .ok (.iload_n 1, 1) := by decide +kernel
theorem dM_let_81 : decode cM_let 81 = .ok (.iaload, 1) := by decide +kernel
theorem dM_let_82 : decode cM_let 82 = .ok (.ireturn, 1) := by decide +kernel
theorem dM_begin_0 : decode cM_begin 0 = .ok (.aload_n 0, 1) := by decide +kernel
theorem dM_begin_1 : decode cM_begin 1 = .ok (.iload_n 1, 1) := by decide +kernel
theorem dM_begin_2 : decode cM_begin 2 = .ok (.invokestatic 126, 3) := by decide +kernel
theorem dM_begin_5 : decode cM_begin 5 = .ok (.ifCond .ne 7, 3) := by decide +kernel
theorem dM_begin_8 : decode cM_begin 8 = .ok (.iconst 1, 1) := by decide +kernel
theorem dM_begin_9 : decode cM_begin 9 = .ok (.goto 18, 3) := by decide +kernel
theorem dM_begin_12 : decode cM_begin 12 = .ok (.iload_n 2, 1) := by decide +kernel
theorem dM_begin_13 : decode cM_begin 13 = .ok (.ifCond .lt 9, 3) := by decide +kernel
theorem dM_begin_16 : decode cM_begin 16 = .ok (.iload_n 2, 1) := by decide +kernel
theorem dM_begin_17 : decode cM_begin 17 = .ok (.bipush 15, 2) := by decide +kernel
theorem dM_begin_19 : decode cM_begin 19 = .ok (.if_icmp .le 7, 3) := by decide +kernel
theorem dM_begin_22 : decode cM_begin 22 = .ok (.iconst 2, 1) := by decide +kernel
theorem dM_begin_23 : decode cM_begin 23 = .ok (.goto 4, 3) := by decide +kernel
theorem dM_begin_26 : decode cM_begin 26 = .ok (.iconst 0, 1) := by decide +kernel
theorem dM_begin_27 : decode cM_begin 27 = .ok (.putfield 51, 3) := by decide +kernel
theorem dM_begin_30 : decode cM_begin 30 = .ok (.aload_n 0, 1) := by decide +kernel
theorem dM_begin_31 : decode cM_begin 31 = .ok (.getfield 51, 3) := by decide +kernel
theorem dM_begin_34 : decode cM_begin 34 = .ok (.ifCond .ne 9, 3) := by decide +kernel
theorem dM_begin_37 : decode cM_begin 37 = .ok (.aload_n 0, 1) := by decide +kernel
theorem dM_begin_38 : decode cM_begin 38 = .ok (.iload_n 1, 1) := by decide +kernel
theorem dM_begin_39 : decode cM_begin 39 = .ok (.iload_n 2, 1) := by decide +kernel
theorem dM_begin_40 : decode cM_begin 40 = .ok (.invokevirtual 47, 3) := by decide +kernel
theorem dM_begin_43 : decode cM_begin 43 = .ok (.return_, 1) := by decide +kernel
theorem dM_absorb_0 : decode cM_absorb 0 = .ok (.aload_n 0, 1) := by decide +kernel
theorem dM_absorb_1 : decode cM_absorb 1 = .ok (.iload_n 1, 1) := by decide +kernel
theorem dM_absorb_2 : decode cM_absorb 2 = .ok (.invokestatic 126, 3) := by decide +kernel
theorem dM_absorb_5 : decode cM_absorb 5 = .ok (.ifCond .ne 7, 3) := by decide +kernel
theorem dM_absorb_8 : decode cM_absorb 8 = .ok (.iconst 1, 1) := by decide +kernel
theorem dM_absorb_9 : decode cM_absorb 9 = .ok (.goto 4, 3) := by decide +kernel
theorem dM_absorb_12 : decode cM_absorb 12 = .ok (.iconst 0, 1) := by decide +kernel
theorem dM_absorb_13 : decode cM_absorb 13 = .ok (.putfield 51, 3) := by decide +kernel
theorem dM_absorb_16 : decode cM_absorb 16 = .ok (.aload_n 0, 1) := by decide +kernel
theorem dM_absorb_17 : decode cM_absorb 17 = .ok (.getfield 51, 3) := by decide +kernel
theorem dM_absorb_20 : decode cM_absorb 20 = .ok (.ifCond .le 5, 3) := by decide +kernel
theorem dM_absorb_23 : decode cM_absorb 23 = .ok (.iconst 0, 1) := by decide +kernel
theorem dM_absorb_24 : decode cM_absorb 24 = .ok (.ireturn, 1) := by decide +kernel
theorem dM_absorb_25 : decode cM_absorb 25 = .ok (.aload_n 0, 1) := by decide +kernel
theorem dM_absorb_26 : decode cM_absorb 26 = .ok (.aload_n 0, 1) := by decide +kernel
theorem dM_absorb_27 : decode cM_absorb 27 = .ok (.getfield 32, 3) := by decide +kernel
theorem dM_absorb_30 : decode cM_absorb 30 = .ok (.iload_n 1, 1) := by decide +kernel
theorem dM_absorb_31 : decode cM_absorb 31 = .ok (.baload, 1) := by decide +kernel
theorem dM_absorb_32 : decode cM_absorb 32 = .ok (.ifCond .eq 7, 3) := by decide +kernel
theorem dM_absorb_35 : decode cM_absorb 35 = .ok (.iconst 2, 1) := by decide +kernel
theorem dM_absorb_36 : decode cM_absorb 36 = .ok (.goto 4, 3) := by decide +kernel
theorem dM_absorb_39 : decode cM_absorb 39 = .ok (.iconst 0, 1) := by decide +kernel
theorem dM_absorb_40 : decode cM_absorb 40 = .ok (.putfield 51, 3) := by decide +kernel
theorem dM_absorb_43 : decode cM_absorb 43 = .ok (.aload_n 0, 1) := by decide +kernel
theorem dM_absorb_44 : decode cM_absorb 44 = .ok (.getfield 51, 3) := by decide +kernel
theorem dM_absorb_47 : decode cM_absorb 47 = .ok (.ifCond .le 5, 3) := by decide +kernel
theorem dM_absorb_50 : decode cM_absorb 50 = .ok (.iconst 0, 1) := by decide +kernel
theorem dM_absorb_51 : decode cM_absorb 51 = .ok (.ireturn, 1) := by decide +kernel
theorem dM_absorb_52 : decode cM_absorb 52 = .ok (.aload_n 0, 1) := by decide +kernel
theorem dM_absorb_53 : decode cM_absorb 53 = .ok (.getfield 23, 3) := by decide +kernel
theorem dM_absorb_56 : decode cM_absorb 56 = .ok (.iload_n 1, 1) := by decide +kernel
theorem dM_absorb_57 : decode cM_absorb 57 = .ok (.iaload, 1) := by decide +kernel
theorem dM_absorb_58 : decode cM_absorb 58 = .ok (.bipush 11, 2) := by decide +kernel
theorem dM_absorb_60 : decode cM_absorb 60 = .ok (.if_icmp .le 15, 3) := by decide +kernel
theorem dM_absorb_63 : decode cM_absorb 63 = .ok (.aload_n 0, 1) := by decide +kernel
theorem dM_absorb_64 : decode cM_absorb 64 = .ok (.iload_n 1, 1) := by decide +kernel
theorem dM_absorb_65 : decode cM_absorb 65 = .ok (.bipush 8, 2) := by decide +kernel
theorem dM_absorb_67 : decode cM_absorb 67 = .ok (.aload_n 0, 1) := by decide +kernel
theorem dM_absorb_68 : decode cM_absorb 68 = .ok (.getfield 123, 3) := by decide +kernel
theorem dM_absorb_71 : decode cM_absorb 71 = .ok (.imul, 1) := by decide +kernel
theorem dM_absorb_72 : decode cM_absorb 72 = .ok (.invokevirtual 103, 3) := by decide +kernel
theorem dM_absorb_75 : decode cM_absorb 75 = .ok (.iconst 0, 1) := by decide +kernel
theorem dM_absorb_76 : decode cM_absorb 76 = .ok (.istore_n 2, 1) := by decide +kernel
theorem dM_absorb_77 : decode cM_absorb 77 = .ok (.iload_n 2, 1) := by decide +kernel
theorem dM_absorb_78 : decode cM_absorb 78 = .ok (.aload_n 0, 1) := by decide +kernel
theorem dM_absorb_79 : decode cM_absorb 79 = .ok (.getfield 123, 3) := by decide +kernel
theorem dM_absorb_82 : decode cM_absorb 82 = .ok (.if_icmp .ge 20, 3) := by decide +kernel
theorem dM_absorb_85 : decode cM_absorb 85 = .ok (.aload_n 0, 1) := by decide +kernel
theorem dM_absorb_86 : decode cM_absorb 86 = .ok (.iload_n 1, 1) := by decide +kernel
theorem dM_absorb_87 : decode cM_absorb 87 = .ok (.aload_n 0, 1) := by decide +kernel
theorem dM_absorb_88 : decode cM_absorb 88 = .ok (.getfield 7, 3) := by decide +kernel
theorem dM_absorb_91 : decode cM_absorb 91 = .ok (.iload_n 2, 1) := by decide +kernel
theorem dM_absorb_92 : decode cM_absorb 92 = .ok (.iaload, 1) := by decide +kernel
theorem dM_absorb_93 : decode cM_absorb 93 = .ok (.invokevirtual 97, 3) := by decide +kernel
theorem dM_absorb_96 : decode cM_absorb 96 = .ok (.iinc 2 1, 3) := by decide +kernel
theorem dM_absorb_99 : decode cM_absorb 99 = .ok (.goto (-22), 3) := by decide +kernel
theorem dM_absorb_102 : decode cM_absorb 102 = .ok (.aload_n 0, 1) := by decide +kernel
theorem dM_absorb_103 : decode cM_absorb 103 = .ok (.getfield 35, 3) := by decide +kernel
theorem dM_absorb_106 : decode cM_absorb 106 = .ok (.iload_n 1, 1) := by decide +kernel
theorem dM_absorb_107 : decode cM_absorb 107 = .ok (.aload_n 0, 1) := by decide +kernel
theorem dM_absorb_108 : decode cM_absorb 108 = .ok (.getfield 35, 3) := by decide +kernel
theorem dM_absorb_111 : decode cM_absorb 111 = .ok (.iload_n 1, 1) := by decide +kernel
theorem dM_absorb_112 : decode cM_absorb 112 = .ok (.iaload, 1) := by decide +kernel
theorem dM_absorb_113 : decode cM_absorb 113 = .ok (.aload_n 0, 1) := by decide +kernel
theorem dM_absorb_114 : decode cM_absorb 114 = .ok (.getfield 123, 3) := by decide +kernel
theorem dM_absorb_117 : decode cM_absorb 117 = .ok (.iadd, 1) := by decide +kernel
theorem dM_absorb_118 : decode cM_absorb 118 = .ok (.iastore, 1) := by decide +kernel
theorem dM_absorb_119 : decode cM_absorb 119 = .ok (.aload_n 0, 1) := by decide +kernel
theorem dM_absorb_120 : decode cM_absorb 120 = .ok (.getfield 35, 3) := by decide +kernel
theorem dM_absorb_123 : decode cM_absorb 123 = .ok (.iload_n 1, 1) := by decide +kernel
theorem dM_absorb_124 : decode cM_absorb 124 = .ok (.iaload, 1) := by decide +kernel
theorem dM_absorb_125 : decode cM_absorb 125 = .ok (.ireturn, 1) := by decide +kernel
theorem dM_bytes_0 : decode cM_bytes 0 = .ok (.aload_n 0, 1) := by decide +kernel
theorem dM_bytes_1 : decode cM_bytes 1 = .ok (.iload_n 1, 1) := by decide +kernel
theorem dM_bytes_2 : decode cM_bytes 2 = .ok (.invokestatic 126, 3) := by decide +kernel
theorem dM_bytes_5 : decode cM_bytes 5 = .ok (.ifCond .ne 7, 3) := by decide +kernel
theorem dM_bytes_8 : decode cM_bytes 8 = .ok (.iconst 1, 1) := by decide +kernel
theorem dM_bytes_9 : decode cM_bytes 9 = .ok (.goto 19, 3) := by decide +kernel
theorem dM_bytes_12 : decode cM_bytes 12 = .ok (.iload_n 2, 1) := by decide +kernel
theorem dM_bytes_13 : decode cM_bytes 13 = .ok (.iconst 1, 1) := by decide +kernel
theorem dM_bytes_14 : decode cM_bytes 14 = .ok (.if_icmp .lt 9, 3) := by decide +kernel
theorem dM_bytes_17 : decode cM_bytes 17 = .ok (.iload_n 2, 1) := by decide +kernel
theorem dM_bytes_18 : decode cM_bytes 18 = .ok (.bipush 8, 2) := by decide +kernel
theorem dM_bytes_20 : decode cM_bytes 20 = .ok (.if_icmp .le 7, 3) := by decide +kernel
theorem dM_bytes_23 : decode cM_bytes 23 = .ok (.iconst 2, 1) := by decide +kernel
theorem dM_bytes_24 : decode cM_bytes 24 = .ok (.goto 4, 3) := by decide +kernel
theorem dM_bytes_27 : decode cM_bytes 27 = .ok (.iconst 0, 1) := by decide +kernel
theorem dM_bytes_28 : decode cM_bytes 28 = .ok (.putfield 51, 3) := by decide +kernel
theorem dM_bytes_31 : decode cM_bytes 31 = .ok (.aload_n 0, 1) := by decide +kernel
theorem dM_bytes_32 : decode cM_bytes 32 = .ok (.getfield 51, 3) := by decide +kernel
theorem dM_bytes_35 : decode cM_bytes 35 = .ok (.ifCond .le 5, 3) := by decide +kernel
theorem dM_bytes_38 : decode cM_bytes 38 = .ok (.iconst 0, 1) := by decide +kernel
theorem dM_bytes_39 : decode cM_bytes 39 = .ok (.ireturn, 1) := by decide +kernel
theorem dM_bytes_40 : decode cM_bytes 40 = .ok (.aload_n 0, 1) := by decide +kernel
theorem dM_bytes_41 : decode cM_bytes 41 = .ok (.aload_n 0, 1) := by decide +kernel
theorem dM_bytes_42 : decode cM_bytes 42 = .ok (.getfield 32, 3) := by decide +kernel
theorem dM_bytes_45 : decode cM_bytes 45 = .ok (.iload_n 1, 1) := by decide +kernel
theorem dM_bytes_46 : decode cM_bytes 46 = .ok (.baload, 1) := by decide +kernel
theorem dM_bytes_47 : decode cM_bytes 47 = .ok (.ifCond .ne 14, 3) := by decide +kernel
theorem dM_bytes_50 : decode cM_bytes 50 = .ok (.aload_n 0, 1) := by decide +kernel
theorem dM_bytes_51 : decode cM_bytes 51 = .ok (.getfield 23, 3) := by decide +kernel
theorem dM_bytes_54 : decode cM_bytes 54 = .ok (.iload_n 1, 1) := by decide +kernel
theorem dM_bytes_55 : decode cM_bytes 55 = .ok (.iaload, 1) := by decide +kernel
theorem dM_bytes_56 : decode cM_bytes 56 = .ok (.bipush 11, 2) := by decide +kernel
theorem dM_bytes_58 : decode cM_bytes 58 = .ok (.if_icmp .le 7, 3) := by decide +kernel
theorem dM_bytes_61 : decode cM_bytes 61 = .ok (.iconst 3, 1) := by decide +kernel
theorem dM_bytes_62 : decode cM_bytes 62 = .ok (.goto 4, 3) := by decide +kernel
theorem dM_bytes_65 : decode cM_bytes 65 = .ok (.iconst 0, 1) := by decide +kernel
theorem dM_bytes_66 : decode cM_bytes 66 = .ok (.putfield 51, 3) := by decide +kernel
theorem dM_bytes_69 : decode cM_bytes 69 = .ok (.aload_n 0, 1) := by decide +kernel
theorem dM_bytes_70 : decode cM_bytes 70 = .ok (.getfield 51, 3) := by decide +kernel
theorem dM_bytes_73 : decode cM_bytes 73 = .ok (.ifCond .le 5, 3) := by decide +kernel
theorem dM_bytes_76 : decode cM_bytes 76 = .ok (.iconst 0, 1) := by decide +kernel
theorem dM_bytes_77 : decode cM_bytes 77 = .ok (.ireturn, 1) := by decide +kernel
theorem dM_bytes_78 : decode cM_bytes 78 = .ok (.iconst 0, 1) := by decide +kernel
theorem dM_bytes_79 : decode cM_bytes 79 = .ok (.istore 5, 2) := by decide +kernel
theorem dM_bytes_81 : decode cM_bytes 81 = .ok (.iload 5, 2) := by decide +kernel
theorem dM_bytes_83 : decode cM_bytes 83 = .ok (.iload_n 2, 1) := by decide +kernel
theorem dM_bytes_84 : decode cM_bytes 84 = .ok (.if_icmp .ge 26, 3) := by decide +kernel
theorem dM_bytes_87 : decode cM_bytes 87 = .ok (.aload_n 0, 1) := by decide +kernel
theorem dM_bytes_88 : decode cM_bytes 88 = .ok (.iload_n 1, 1) := by decide +kernel
theorem dM_bytes_89 : decode cM_bytes 89 = .ok (.lload_n 3, 1) := by decide +kernel
theorem dM_bytes_90 : decode cM_bytes 90 = .ok (.bipush 8, 2) := by decide +kernel
theorem dM_bytes_92 : decode cM_bytes 92 = .ok (.iload 5, 2) := by decide +kernel
theorem dM_bytes_94 : decode cM_bytes 94 = .ok (.imul, 1) := by decide +kernel
theorem dM_bytes_95 : decode cM_bytes 95 = .ok (.lshr, 1) := by decide +kernel
theorem dM_bytes_96 : decode cM_bytes 96 = .ok (.ldc2_w 110, 3) := by decide +kernel
theorem dM_bytes_99 : decode cM_bytes 99 = .ok (.land, 1) := by decide +kernel
theorem dM_bytes_100 : decode cM_bytes 100 = .ok (.l2i, 1) := by decide +kernel
theorem dM_bytes_101 : decode cM_bytes 101 = .ok (.invokevirtual 97, 3) := by decide +kernel
theorem dM_bytes_104 : decode cM_bytes 104 = .ok (.iinc 5 1, 3) := by decide +kernel
theorem dM_bytes_107 : decode cM_bytes 107 = .ok (.goto (-26), 3) := by decide +kernel
theorem dM_bytes_110 : decode cM_bytes 110 = .ok (.aload_n 0, 1) := by decide +kernel
theorem dM_bytes_111 : decode cM_bytes 111 = .ok (.getfield 35, 3) := by decide +kernel
theorem dM_bytes_114 : decode cM_bytes 114 = .ok (.iload_n 1, 1) := by decide +kernel
theorem dM_bytes_115 : decode cM_bytes 115 = .ok (.aload_n 0, 1) := by decide +kernel
theorem dM_bytes_116 : decode cM_bytes 116 = .ok (.getfield 35, 3) := by decide +kernel
theorem dM_bytes_119 : decode cM_bytes 119 = .ok (.iload_n 1, 1) := by decide +kernel
theorem dM_bytes_120 : decode cM_bytes 120 = .ok (.iaload, 1) := by decide +kernel
theorem dM_bytes_121 : decode cM_bytes 121 = .ok (.iload_n 2, 1) := by decide +kernel
theorem dM_bytes_122 : decode cM_bytes 122 = .ok (.iadd, 1) := by decide +kernel
theorem dM_bytes_123 : decode cM_bytes 123 = .ok (.iastore, 1) := by decide +kernel
theorem dM_bytes_124 : decode cM_bytes 124 = .ok (.aload_n 0, 1) := by decide +kernel
theorem dM_bytes_125 : decode cM_bytes 125 = .ok (.getfield 35, 3) := by decide +kernel
theorem dM_bytes_128 : decode cM_bytes 128 = .ok (.iload_n 1, 1) := by decide +kernel
theorem dM_bytes_129 : decode cM_bytes 129 = .ok (.iaload, 1) := by decide +kernel
theorem dM_bytes_130 : decode cM_bytes 130 = .ok (.ireturn, 1) := by decide +kernel
theorem dM_end_0 : decode cM_end 0 = .ok (.aload_n 0, 1) := by decide +kernel
theorem dM_end_1 : decode cM_end 1 = .ok (.iload_n 1, 1) := by decide +kernel
theorem dM_end_2 : decode cM_end 2 = .ok (.invokestatic 126, 3) := by decide +kernel
theorem dM_end_5 : decode cM_end 5 = .ok (.ifCond .ne 7, 3) := by decide +kernel
theorem dM_end_8 : decode cM_end 8 = .ok (.iconst 1, 1) := by decide +kernel
theorem dM_end_9 : decode cM_end 9 = .ok (.goto 4, 3) := by decide +kernel
theorem dM_end_12 : decode cM_end 12 = .ok (.iconst 0, 1) := by decide +kernel
theorem dM_end_13 : decode cM_end 13 = .ok (.putfield 51, 3) := by decide +kernel
theorem dM_end_16 : decode cM_end 16 = .ok (.aload_n 0, 1) := by decide +kernel
theorem dM_end_17 : decode cM_end 17 = .ok (.getfield 51, 3) := by decide +kernel
theorem dM_end_20 : decode cM_end 20 = .ok (.ifCond .le 4, 3) := by decide +kernel
theorem dM_end_23 : decode cM_end 23 = .ok (.return_, 1) := by decide +kernel
theorem dM_end_24 : decode cM_end 24 = .ok (.aload_n 0, 1) := by decide +kernel
theorem dM_end_25 : decode cM_end 25 = .ok (.getfield 23, 3) := by decide +kernel
theorem dM_end_28 : decode cM_end 28 = .ok (.iload_n 1, 1) := by decide +kernel
theorem dM_end_29 : decode cM_end 29 = .ok (.iaload, 1) := by decide +kernel
theorem dM_end_30 : decode cM_end 30 = .ok (.invokestatic 129, 3) := by decide +kernel
theorem dM_end_33 : decode cM_end 33 = .ok (.ifCond .eq 23, 3) := by decide +kernel
theorem dM_end_36 : decode cM_end 36 = .ok (.iload_n 2, 1) := by decide +kernel
theorem dM_end_37 : decode cM_end 37 = .ok (.iconst 1, 1) := by decide +kernel
theorem dM_end_38 : decode cM_end 38 = .ok (.if_icmp .lt 14, 3) := by decide +kernel
theorem dM_end_41 : decode cM_end 41 = .ok (.iload_n 2, 1) := by decide +kernel
theorem dM_end_42 : decode cM_end 42 = .ok (.sipush 1000, 3) := by decide +kernel
theorem dM_end_45 : decode cM_end 45 = .ok (.if_icmp .gt 7, 3) := by decide +kernel
theorem dM_end_48 : decode cM_end 48 = .ok (.iconst 1, 1) := by decide +kernel
theorem dM_end_49 : decode cM_end 49 = .ok (.goto 25, 3) := by decide +kernel
theorem dM_end_52 : decode cM_end 52 = .ok (.iconst 0, 1) := by decide +kernel
theorem dM_end_53 : decode cM_end 53 = .ok (.goto 21, 3) := by decide +kernel
theorem dM_end_56 : decode cM_end 56 = .ok (.iload_n 2, 1) := by decide +kernel
theorem dM_end_57 : decode cM_end 57 = .ok (.aload_n 0, 1) := by decide +kernel
theorem dM_end_58 : decode cM_end 58 = .ok (.getfield 23, 3) := by decide +kernel
theorem dM_end_61 : decode cM_end 61 = .ok (.iload_n 1, 1) := by decide +kernel
theorem dM_end_62 : decode cM_end 62 = .ok (.iaload, 1) := by decide +kernel
theorem dM_end_63 : decode cM_end 63 = .ok (.invokestatic 132, 3) := by decide +kernel
theorem dM_end_66 : decode cM_end 66 = .ok (.if_icmp .ne 7, 3) := by decide +kernel
theorem dM_end_69 : decode cM_end 69 = .ok (.iconst 1, 1) := by decide +kernel
theorem dM_end_70 : decode cM_end 70 = .ok (.goto 4, 3) := by decide +kernel
theorem dM_end_73 : decode cM_end 73 = .ok (.iconst 0, 1) := by decide +kernel
theorem dM_end_74 : decode cM_end 74 = .ok (.istore_n 3, 1) := by decide +kernel
theorem dM_end_75 : decode cM_end 75 = .ok (.aload_n 0, 1) := by decide +kernel
theorem dM_end_76 : decode cM_end 76 = .ok (.iload_n 3, 1) := by decide +kernel
theorem dM_end_77 : decode cM_end 77 = .ok (.ifCond .ne 7, 3) := by decide +kernel
theorem dM_end_80 : decode cM_end 80 = .ok (.iconst 2, 1) := by decide +kernel
theorem dM_end_81 : decode cM_end 81 = .ok (.goto 17, 3) := by decide +kernel
theorem dM_end_84 : decode cM_end 84 = .ok (.aload_n 0, 1) := by decide +kernel
theorem dM_end_85 : decode cM_end 85 = .ok (.getfield 32, 3) := by decide +kernel
theorem dM_end_88 : decode cM_end 88 = .ok (.iload_n 1, 1) := by decide +kernel
theorem dM_end_89 : decode cM_end 89 = .ok (.baload, 1) := by decide +kernel
theorem dM_end_90 : decode cM_end 90 = .ok (.ifCond .eq 7, 3) := by decide +kernel
theorem dM_end_93 : decode cM_end 93 = .ok (.iconst 3, 1) := by decide +kernel
theorem dM_end_94 : decode cM_end 94 = .ok (.goto 4, 3) := by decide +kernel
theorem dM_end_97 : decode cM_end 97 = .ok (.iconst 0, 1) := by decide +kernel
theorem dM_end_98 : decode cM_end 98 = .ok (.putfield 51, 3) := by decide +kernel
theorem dM_end_101 : decode cM_end 101 = .ok (.aload_n 0, 1) := by decide +kernel
theorem dM_end_102 : decode cM_end 102 = .ok (.getfield 51, 3) := by decide +kernel
theorem dM_end_105 : decode cM_end 105 = .ok (.ifCond .le 4, 3) := by decide +kernel
theorem dM_end_108 : decode cM_end 108 = .ok (.return_, 1) := by decide +kernel
theorem dM_end_109 : decode cM_end 109 = .ok (.aload_n 0, 1) := by decide +kernel
theorem dM_end_110 : decode cM_end 110 = .ok (.getfield 23, 3) := by decide +kernel
theorem dM_end_113 : decode cM_end 113 = .ok (.iload_n 1, 1) := by decide +kernel
theorem dM_end_114 : decode cM_end 114 = .ok (.iaload, 1) := by decide +kernel
theorem dM_end_115 : decode cM_end 115 = .ok (.bipush 7, 2) := by decide +kernel
theorem dM_end_117 : decode cM_end 117 = .ok (.if_icmp .le 24, 3) := by decide +kernel
theorem dM_end_120 : decode cM_end 120 = .ok (.aload_n 0, 1) := by decide +kernel
theorem dM_end_121 : decode cM_end 121 = .ok (.iload_n 1, 1) := by decide +kernel
theorem dM_end_122 : decode cM_end 122 = .ok (.bipush 8, 2) := by decide +kernel
theorem dM_end_124 : decode cM_end 124 = .ok (.iload_n 2, 1) := by decide +kernel
theorem dM_end_125 : decode cM_end 125 = .ok (.imul, 1) := by decide +kernel
theorem dM_end_126 : decode cM_end 126 = .ok (.invokevirtual 100, 3) := by decide +kernel
theorem dM_end_129 : decode cM_end 129 = .ok (.aload_n 0, 1) := by decide +kernel
theorem dM_end_130 : decode cM_end 130 = .ok (.iload_n 1, 1) := by decide +kernel
theorem dM_end_131 : decode cM_end 131 = .ok (.bipush 8, 2) := by decide +kernel
theorem dM_end_133 : decode cM_end 133 = .ok (.iload_n 2, 1) := by decide +kernel
theorem dM_end_134 : decode cM_end 134 = .ok (.imul, 1) := by decide +kernel
theorem dM_end_135 : decode cM_end 135 = .ok (.invokestatic 94, 3) := by decide +kernel
theorem dM_end_138 : decode cM_end 138 = .ok (.invokevirtual 97, 3) := by decide +kernel
theorem dM_end_141 : decode cM_end 141 = .ok (.aload_n 0, 1) := by decide +kernel
theorem dM_end_142 : decode cM_end 142 = .ok (.iload_n 1, 1) := by decide +kernel
theorem dM_end_143 : decode cM_end 143 = .ok (.aload_n 0, 1) := by decide +kernel
theorem dM_end_144 : decode cM_end 144 = .ok (.getfield 26, 3) := by decide +kernel
theorem dM_end_147 : decode cM_end 147 = .ok (.iload_n 1, 1) := by decide +kernel
theorem dM_end_148 : decode cM_end 148 = .ok (.iaload, 1) := by decide +kernel
theorem dM_end_149 : decode cM_end 149 = .ok (.aload_n 0, 1) := by decide +kernel
theorem dM_end_150 : decode cM_end 150 = .ok (.getfield 29, 3) := by decide +kernel
theorem dM_end_153 : decode cM_end 153 = .ok (.iload_n 1, 1) := by decide +kernel
theorem dM_end_154 : decode cM_end 154 = .ok (.iaload, 1) := by decide +kernel
theorem dM_end_155 : decode cM_end 155 = .ok (.invokevirtual 82, 3) := by decide +kernel
theorem dM_end_158 : decode cM_end 158 = .ok (.aload_n 0, 1) := by decide +kernel
theorem dM_end_159 : decode cM_end 159 = .ok (.iload_n 1, 1) := by decide +kernel
theorem dM_end_160 : decode cM_end 160 = .ok (.aload_n 0, 1) := by decide +kernel
theorem dM_end_161 : decode cM_end 161 = .ok (.getfield 23, 3) := by decide +kernel
theorem dM_end_164 : decode cM_end 164 = .ok (.iload_n 1, 1) := by decide +kernel
theorem dM_end_165 : decode cM_end 165 = .ok (.iaload, 1) := by decide +kernel
theorem dM_end_166 : decode cM_end 166 = .ok (.invokestatic 86, 3) := by decide +kernel
theorem dM_end_169 : decode cM_end 169 = .ok (.iconst 1, 1) := by decide +kernel
theorem dM_end_170 : decode cM_end 170 = .ok (.isub, 1) := by decide +kernel
theorem dM_end_171 : decode cM_end 171 = .ok (.sipush 128, 3) := by decide +kernel
theorem dM_end_174 : decode cM_end 174 = .ok (.invokevirtual 82, 3) := by decide +kernel
theorem dM_end_177 : decode cM_end 177 = .ok (.aload_n 0, 1) := by decide +kernel
theorem dM_end_178 : decode cM_end 178 = .ok (.iload_n 1, 1) := by decide +kernel
theorem dM_end_179 : decode cM_end 179 = .ok (.invokevirtual 90, 3) := by decide +kernel
theorem dM_end_182 : decode cM_end 182 = .ok (.aload_n 0, 1) := by decide +kernel
theorem dM_end_183 : decode cM_end 183 = .ok (.getfield 26, 3) := by decide +kernel
theorem dM_end_186 : decode cM_end 186 = .ok (.iload_n 1, 1) := by decide +kernel
theorem dM_end_187 : decode cM_end 187 = .ok (.iconst 0, 1) := by decide +kernel
theorem dM_end_188 : decode cM_end 188 = .ok (.iastore, 1) := by decide +kernel
theorem dM_end_189 : decode cM_end 189 = .ok (.aload_n 0, 1) := by decide +kernel
theorem dM_end_190 : decode cM_end 190 = .ok (.getfield 32, 3) := by decide +kernel
theorem dM_end_193 : decode cM_end 193 = .ok (.iload_n 1, 1) := by decide +kernel
theorem dM_end_194 : decode cM_end 194 = .ok (.iconst 1, 1) := by decide +kernel
theorem dM_end_195 : decode cM_end 195 = .ok (.bastore, 1) := by decide +kernel
theorem dM_end_196 : decode cM_end 196 = .ok (.aload_n 0, 1) := by decide +kernel
theorem dM_end_197 : decode cM_end 197 = .ok (.getfield 38, 3) := by decide +kernel
theorem dM_end_200 : decode cM_end 200 = .ok (.iload_n 1, 1) := by decide +kernel
theorem dM_end_201 : decode cM_end 201 = .ok (.iload_n 2, 1) := by decide +kernel
theorem dM_end_202 : decode cM_end 202 = .ok (.ifCond .le 7, 3) := by decide +kernel
theorem dM_end_205 : decode cM_end 205 = .ok (.iload_n 2, 1) := by decide +kernel
theorem dM_end_206 : decode cM_end 206 = .ok (.goto 4, 3) := by decide +kernel
theorem dM_end_209 : decode cM_end 209 = .ok (.iconst (-1), 1) := by decide +kernel
theorem dM_end_210 : decode cM_end 210 = .ok (.iastore, 1) := by decide +kernel
theorem dM_end_211 : decode cM_end 211 = .ok (.return_, 1) := by decide +kernel
theorem dM_has_0 : decode cM_has 0 = .ok (.aload_n 0, 1) := by decide +kernel
theorem dM_has_1 : decode cM_has 1 = .ok (.getfield 32, 3) := by decide +kernel
theorem dM_has_4 : decode cM_has 4 = .ok (.iload_n 1, 1) := by decide +kernel
theorem dM_has_5 : decode cM_has 5 = .ok (.baload, 1) := by decide +kernel
theorem dM_has_6 : decode cM_has 6 = .ok (.ifCond .eq 26, 3) := by decide +kernel
theorem dM_has_9 : decode cM_has 9 = .ok (.aload_n 0, 1) := by decide +kernel
theorem dM_has_10 : decode cM_has 10 = .ok (.getfield 38, 3) := by decide +kernel
theorem dM_has_13 : decode cM_has 13 = .ok (.iload_n 1, 1) := by decide +kernel
theorem dM_has_14 : decode cM_has 14 = .ok (.iaload, 1) := by decide +kernel
theorem dM_has_15 : decode cM_has 15 = .ok (.ifCond .lt 13, 3) := by decide +kernel
theorem dM_has_18 : decode cM_has 18 = .ok (.iload_n 2, 1) := by decide +kernel
theorem dM_has_19 : decode cM_has 19 = .ok (.aload_n 0, 1) := by decide +kernel
theorem dM_has_20 : decode cM_has 20 = .ok (.getfield 38, 3) := by decide +kernel
theorem dM_has_23 : decode cM_has 23 = .ok (.iload_n 1, 1) := by decide +kernel
theorem dM_has_24 : decode cM_has 24 = .ok (.iaload, 1) := by decide +kernel
theorem dM_has_25 : decode cM_has 25 = .ok (.if_icmp .gt 7, 3) := by decide +kernel
theorem dM_has_28 : decode cM_has 28 = .ok (.iconst 1, 1) := by decide +kernel
theorem dM_has_29 : decode cM_has 29 = .ok (.goto 4, 3) := by decide +kernel
theorem dM_has_32 : decode cM_has 32 = .ok (.iconst 0, 1) := by decide +kernel
theorem dM_has_33 : decode cM_has 33 = .ok (.ireturn, 1) := by decide +kernel
theorem dM_comeOut_0 : decode cM_comeOut 0 = .ok (.aload_n 0, 1) := by decide +kernel
theorem dM_comeOut_1 : decode cM_comeOut 1 = .ok (.getfield 26, 3) := by decide +kernel
theorem dM_comeOut_4 : decode cM_comeOut 4 = .ok (.iload_n 1, 1) := by decide +kernel
theorem dM_comeOut_5 : decode cM_comeOut 5 = .ok (.iaload, 1) := by decide +kernel
theorem dM_comeOut_6 : decode cM_comeOut 6 = .ok (.aload_n 0, 1) := by decide +kernel
theorem dM_comeOut_7 : decode cM_comeOut 7 = .ok (.getfield 23, 3) := by decide +kernel
theorem dM_comeOut_10 : decode cM_comeOut 10 = .ok (.iload_n 1, 1) := by decide +kernel
theorem dM_comeOut_11 : decode cM_comeOut 11 = .ok (.iaload, 1) := by decide +kernel
theorem dM_comeOut_12 : decode cM_comeOut 12 = .ok (.invokestatic 86, 3) := by decide +kernel
theorem dM_comeOut_15 : decode cM_comeOut 15 = .ok (.if_icmp .ne 15, 3) := by decide +kernel
theorem dM_comeOut_18 : decode cM_comeOut 18 = .ok (.aload_n 0, 1) := by decide +kernel
theorem dM_comeOut_19 : decode cM_comeOut 19 = .ok (.getfield 26, 3) := by decide +kernel
theorem dM_comeOut_22 : decode cM_comeOut 22 = .ok (.iload_n 1, 1) := by decide +kernel
theorem dM_comeOut_23 : decode cM_comeOut 23 = .ok (.iconst 0, 1) := by decide +kernel
theorem dM_comeOut_24 : decode cM_comeOut 24 = .ok (.iastore, 1) := by decide +kernel
theorem dM_comeOut_25 : decode cM_comeOut 25 = .ok (.aload_n 0, 1) := by decide +kernel
theorem dM_comeOut_26 : decode cM_comeOut 26 = .ok (.iload_n 1, 1) := by decide +kernel
theorem dM_comeOut_27 : decode cM_comeOut 27 = .ok (.invokevirtual 90, 3) := by decide +kernel
theorem dM_comeOut_30 : decode cM_comeOut 30 = .ok (.iconst 0, 1) := by decide +kernel
theorem dM_comeOut_31 : decode cM_comeOut 31 = .ok (.istore_n 2, 1) := by decide +kernel
theorem dM_comeOut_32 : decode cM_comeOut 32 = .ok (.bipush 7, 2) := by decide +kernel
theorem dM_comeOut_34 : decode cM_comeOut 34 = .ok (.istore_n 3, 1) := by decide +kernel
theorem dM_comeOut_35 : decode cM_comeOut 35 = .ok (.iload_n 3, 1) := by decide +kernel
theorem dM_comeOut_36 : decode cM_comeOut 36 = .ok (.ifCond .lt 44, 3) := by decide +kernel
theorem dM_comeOut_39 : decode cM_comeOut 39 = .ok (.iconst 2, 1) := by decide +kernel
theorem dM_comeOut_40 : decode cM_comeOut 40 = .ok (.iload_n 2, 1) := by decide +kernel
theorem dM_comeOut_41 : decode cM_comeOut 41 = .ok (.imul, 1) := by decide +kernel
theorem dM_comeOut_42 : decode cM_comeOut 42 = .ok (.aload_n 0, 1) := by decide +kernel
theorem dM_comeOut_43 : decode cM_comeOut 43 = .ok (.getfield 19, 3) := by decide +kernel
theorem dM_comeOut_46 : decode cM_comeOut 46 = .ok (.sipush 1600, 3) := by decide +kernel
theorem dM_comeOut_49 : decode cM_comeOut 49 = .ok (.iload_n 1, 1) := by decide +kernel
theorem dM_comeOut_50 : decode cM_comeOut 50 = .ok (.imul, 1) := by decide +kernel
theorem dM_comeOut_51 : decode cM_comeOut 51 = .ok (.bipush 8, 2) := by decide +kernel
theorem dM_comeOut_53 : decode cM_comeOut 53 = .ok (.aload_n 0, 1) := by decide +kernel
theorem dM_comeOut_54 : decode cM_comeOut 54 = .ok (.getfield 26, 3) := by decide +kernel
theorem dM_comeOut_57 : decode cM_comeOut 57 = .ok (.iload_n 1, 1) := by decide +kernel
theorem dM_comeOut_58 : decode cM_comeOut 58 = .ok (.iaload, 1) := by decide +kernel
theorem dM_comeOut_59 : decode cM_comeOut 59 = .ok (.imul, 1) := by decide +kernel
theorem dM_comeOut_60 : decode cM_comeOut 60 = .ok (.iadd, 1) := by decide +kernel
theorem dM_comeOut_61 : decode cM_comeOut 61 = .ok (.iload_n 3, 1) := by decide +kernel
theorem dM_comeOut_62 : decode cM_comeOut 62 = .ok (.iadd, 1) := by decide +kernel
theorem dM_comeOut_63 : decode cM_comeOut 63 = .ok (.baload, 1) := by decide +kernel
theorem dM_comeOut_64 : decode cM_comeOut 64 = .ok (.ifCond .eq 7, 3) := by decide +kernel
theorem dM_comeOut_67 : decode cM_comeOut 67 = .ok (.iconst 1, 1) := by decide +kernel
theorem dM_comeOut_68 : decode cM_comeOut 68 = .ok (.goto 4, 3) := by decide +kernel
theorem dM_comeOut_71 : decode cM_comeOut 71 = .ok (.iconst 0, 1) := by decide +kernel
theorem dM_comeOut_72 : decode cM_comeOut 72 = .ok (.iadd, 1) := by decide +kernel
theorem dM_comeOut_73 : decode cM_comeOut 73 = .ok (.istore_n 2, 1) := by decide +kernel
theorem dM_comeOut_74 : decode cM_comeOut 74 = .ok (.iinc 3 (-1), 3) := by decide +kernel
theorem dM_comeOut_77 : decode cM_comeOut 77 = .ok (.goto (-42), 3) := by decide +kernel
theorem dM_comeOut_80 : decode cM_comeOut 80 = .ok (.aload_n 0, 1) := by decide +kernel
theorem dM_comeOut_81 : decode cM_comeOut 81 = .ok (.getfield 26, 3) := by decide +kernel
theorem dM_comeOut_84 : decode cM_comeOut 84 = .ok (.iload_n 1, 1) := by decide +kernel
theorem dM_comeOut_85 : decode cM_comeOut 85 = .ok (.dup2, 1) := by decide +kernel
theorem dM_comeOut_86 : decode cM_comeOut 86 = .ok (.iaload, 1) := by decide +kernel
theorem dM_comeOut_87 : decode cM_comeOut 87 = .ok (.iconst 1, 1) := by decide +kernel
theorem dM_comeOut_88 : decode cM_comeOut 88 = .ok (.iadd, 1) := by decide +kernel
theorem dM_comeOut_89 : decode cM_comeOut 89 = .ok (.iastore, 1) := by decide +kernel
theorem dM_comeOut_90 : decode cM_comeOut 90 = .ok (.aload_n 0, 1) := by decide +kernel
theorem dM_comeOut_91 : decode cM_comeOut 91 = .ok (.getfield 38, 3) := by decide +kernel
theorem dM_comeOut_94 : decode cM_comeOut 94 = .ok (.iload_n 1, 1) := by decide +kernel
theorem dM_comeOut_95 : decode cM_comeOut 95 = .ok (.aload_n 0, 1) := by decide +kernel
theorem dM_comeOut_96 : decode cM_comeOut 96 = .ok (.getfield 38, 3) := by decide +kernel
theorem dM_comeOut_99 : decode cM_comeOut 99 = .ok (.iload_n 1, 1) := by decide +kernel
theorem dM_comeOut_100 : decode cM_comeOut 100 = .ok (.iaload, 1) := by decide +kernel
theorem dM_comeOut_101 : decode cM_comeOut 101 = .ok (.ifCond .ge 7, 3) := by decide +kernel
theorem dM_comeOut_104 : decode cM_comeOut 104 = .ok (.iconst (-1), 1) := by decide +kernel
theorem dM_comeOut_105 : decode cM_comeOut 105 = .ok (.goto 11, 3) := by decide +kernel
theorem dM_comeOut_108 : decode cM_comeOut 108 = .ok (.aload_n 0, 1) := by decide +kernel
theorem dM_comeOut_109 : decode cM_comeOut 109 = .ok (.getfield 38, 3) := by decide +kernel
theorem dM_comeOut_112 : decode cM_comeOut 112 = .ok (.iload_n 1, 1) := by decide +kernel
theorem dM_comeOut_113 : decode cM_comeOut 113 = .ok (.iaload, 1) := by decide +kernel
theorem dM_comeOut_114 : decode cM_comeOut 114 = .ok (.iconst 1, 1) := by decide +kernel
theorem dM_comeOut_115 : decode cM_comeOut 115 = .ok (.isub, 1) := by decide +kernel
theorem dM_comeOut_116 : decode cM_comeOut 116 = .ok (.iastore, 1) := by decide +kernel
theorem dM_comeOut_117 : decode cM_comeOut 117 = .ok (.iload_n 2, 1) := by decide +kernel
theorem dM_comeOut_118 : decode cM_comeOut 118 = .ok (.ireturn, 1) := by decide +kernel
theorem dM_squeeze_0 : decode cM_squeeze 0 = .ok (.aload_n 0, 1) := by decide +kernel
theorem dM_squeeze_1 : decode cM_squeeze 1 = .ok (.iload_n 1, 1) := by decide +kernel
theorem dM_squeeze_2 : decode cM_squeeze 2 = .ok (.invokestatic 126, 3) := by decide +kernel
theorem dM_squeeze_5 : decode cM_squeeze 5 = .ok (.ifCond .ne 7, 3) := by decide +kernel
theorem dM_squeeze_8 : decode cM_squeeze 8 = .ok (.iconst 1, 1) := by decide +kernel
theorem dM_squeeze_9 : decode cM_squeeze 9 = .ok (.goto 19, 3) := by decide +kernel
theorem dM_squeeze_12 : decode cM_squeeze 12 = .ok (.iload_n 2, 1) := by decide +kernel
theorem dM_squeeze_13 : decode cM_squeeze 13 = .ok (.iconst 1, 1) := by decide +kernel
theorem dM_squeeze_14 : decode cM_squeeze 14 = .ok (.if_icmp .lt 9, 3) := by decide +kernel
theorem dM_squeeze_17 : decode cM_squeeze 17 = .ok (.iload_n 2, 1) := by decide +kernel
theorem dM_squeeze_18 : decode cM_squeeze 18 = .ok (.bipush 8, 2) := by decide +kernel
theorem dM_squeeze_20 : decode cM_squeeze 20 = .ok (.if_icmp .le 7, 3) := by decide +kernel
theorem dM_squeeze_23 : decode cM_squeeze 23 = .ok (.iconst 2, 1) := by decide +kernel
theorem dM_squeeze_24 : decode cM_squeeze 24 = .ok (.goto 4, 3) := by decide +kernel
theorem dM_squeeze_27 : decode cM_squeeze 27 = .ok (.iconst 0, 1) := by decide +kernel
theorem dM_squeeze_28 : decode cM_squeeze 28 = .ok (.putfield 51, 3) := by decide +kernel
theorem dM_squeeze_31 : decode cM_squeeze 31 = .ok (.aload_n 0, 1) := by decide +kernel
theorem dM_squeeze_32 : decode cM_squeeze 32 = .ok (.getfield 51, 3) := by decide +kernel
theorem dM_squeeze_35 : decode cM_squeeze 35 = .ok (.ifCond .le 5, 3) := by decide +kernel
theorem dM_squeeze_38 : decode cM_squeeze 38 = .ok (.lconst 0, 1) := by decide +kernel
theorem dM_squeeze_39 : decode cM_squeeze 39 = .ok (.lreturn, 1) := by decide +kernel
theorem dM_squeeze_40 : decode cM_squeeze 40 = .ok (.aload_n 0, 1) := by decide +kernel
theorem dM_squeeze_41 : decode cM_squeeze 41 = .ok (.aload_n 0, 1) := by decide +kernel
theorem dM_squeeze_42 : decode cM_squeeze 42 = .ok (.iload_n 1, 1) := by decide +kernel
theorem dM_squeeze_43 : decode cM_squeeze 43 = .ok (.iload_n 2, 1) := by decide +kernel
theorem dM_squeeze_44 : decode cM_squeeze 44 = .ok (.invokevirtual 135, 3) := by decide +kernel
theorem dM_squeeze_47 : decode cM_squeeze 47 = .ok (.ifCond .eq 7, 3) := by decide +kernel
theorem dM_squeeze_50 : decode cM_squeeze 50 = .ok (.iconst 0, 1) := by decide +kernel
theorem dM_squeeze_51 : decode cM_squeeze 51 = .ok (.goto 4, 3) := by decide +kernel
theorem dM_squeeze_54 : decode cM_squeeze 54 = .ok (.iconst 3, 1) := by decide +kernel
theorem dM_squeeze_55 : decode cM_squeeze 55 = .ok (.putfield 51, 3) := by decide +kernel
theorem dM_squeeze_58 : decode cM_squeeze 58 = .ok (.aload_n 0, 1) := by decide +kernel
theorem dM_squeeze_59 : decode cM_squeeze 59 = .ok (.getfield 51, 3) := by decide +kernel
theorem dM_squeeze_62 : decode cM_squeeze 62 = .ok (.ifCond .le 5, 3) := by decide +kernel
theorem dM_squeeze_65 : decode cM_squeeze 65 = .ok (.lconst 0, 1) := by decide +kernel
theorem dM_squeeze_66 : decode cM_squeeze 66 = .ok (.lreturn, 1) := by decide +kernel
theorem dM_squeeze_67 : decode cM_squeeze 67 = .ok (.lconst 0, 1) := by decide +kernel
theorem dM_squeeze_68 : decode cM_squeeze 68 = .ok (.lstore_n 3, 1) := by decide +kernel
theorem dM_squeeze_69 : decode cM_squeeze 69 = .ok (.iconst 0, 1) := by decide +kernel
theorem dM_squeeze_70 : decode cM_squeeze 70 = .ok (.istore 5, 2) := by decide +kernel
theorem dM_squeeze_72 : decode cM_squeeze 72 = .ok (.iload 5, 2) := by decide +kernel
theorem dM_squeeze_74 : decode cM_squeeze 74 = .ok (.iload_n 2, 1) := by decide +kernel
theorem dM_squeeze_75 : decode cM_squeeze 75 = .ok (.if_icmp .ge 24, 3) := by decide +kernel
theorem dM_squeeze_78 : decode cM_squeeze 78 = .ok (.lload_n 3, 1) := by decide +kernel
theorem dM_squeeze_79 : decode cM_squeeze 79 = .ok (.aload_n 0, 1) := by decide +kernel
theorem dM_squeeze_80 : decode cM_squeeze 80 = .ok (.iload_n 1, 1) := by decide +kernel
theorem dM_squeeze_81 : decode cM_squeeze 81 = .ok (.invokevirtual 138, 3) := by decide +kernel
theorem dM_squeeze_84 : decode cM_squeeze 84 = .ok (.i2l, 1) := by decide +kernel
theorem dM_squeeze_85 : decode cM_squeeze 85 = .ok (.bipush 8, 2) := by decide +kernel
theorem dM_squeeze_87 : decode cM_squeeze 87 = .ok (.iload 5, 2) := by decide +kernel
theorem dM_squeeze_89 : decode cM_squeeze 89 = .ok (.imul, 1) := by decide +kernel
theorem dM_squeeze_90 : decode cM_squeeze 90 = .ok (.lshl, 1) := by decide +kernel
theorem dM_squeeze_91 : decode cM_squeeze 91 = .ok (.lor, 1) := by decide +kernel
theorem dM_squeeze_92 : decode cM_squeeze 92 = .ok (.lstore_n 3, 1) := by decide +kernel
theorem dM_squeeze_93 : decode cM_squeeze 93 = .ok (.iinc 5 1, 3) := by decide +kernel
theorem dM_squeeze_96 : decode cM_squeeze 96 = .ok (.goto (-24), 3) := by decide +kernel
theorem dM_squeeze_99 : decode cM_squeeze 99 = .ok (.lload_n 3, 1) := by decide +kernel
theorem dM_squeeze_100 : decode cM_squeeze 100 = .ok (.lreturn, 1) := by decide +kernel
theorem dM_left_0 : decode cM_left 0 = .ok (.aload_n 0, 1) := by decide +kernel
theorem dM_left_1 : decode cM_left 1 = .ok (.iload_n 1, 1) := by decide +kernel
theorem dM_left_2 : decode cM_left 2 = .ok (.invokestatic 126, 3) := by decide +kernel
theorem dM_left_5 : decode cM_left 5 = .ok (.ifCond .eq 7, 3) := by decide +kernel
theorem dM_left_8 : decode cM_left 8 = .ok (.iconst 0, 1) := by decide +kernel
theorem dM_left_9 : decode cM_left 9 = .ok (.goto 4, 3) := by decide +kernel
theorem dM_left_12 : decode cM_left 12 = .ok (.iconst 1, 1) := by decide +kernel
theorem dM_left_13 : decode cM_left 13 = .ok (.putfield 51, 3) := by decide +kernel
theorem dM_left_16 : decode cM_left 16 = .ok (.aload_n 0, 1) := by decide +kernel
theorem dM_left_17 : decode cM_left 17 = .ok (.getfield 51, 3) := by decide +kernel
theorem dM_left_20 : decode cM_left 20 = .ok (.ifCond .le 7, 3) := by decide +kernel
theorem dM_left_23 : decode cM_left 23 = .ok (.iconst 0, 1) := by decide +kernel
theorem dM_left_24 : decode cM_left 24 = .ok (.goto 9, 3) := by decide +kernel
theorem dM_left_27 : decode cM_left 27 = .ok (.aload_n 0, 1) := by decide +kernel
theorem dM_left_28 : decode cM_left 28 = .ok (.getfield 38, 3) := by decide +kernel
theorem dM_left_31 : decode cM_left 31 = .ok (.iload_n 1, 1) := by decide +kernel
theorem dM_left_32 : decode cM_left 32 = .ok (.iaload, 1) := by decide +kernel
theorem dM_left_33 : decode cM_left 33 = .ok (.ireturn, 1) := by decide +kernel
theorem dM_copyAll_0 : decode cM_copyAll 0 = .ok (.iconst 0, 1) := by decide +kernel
theorem dM_copyAll_1 : decode cM_copyAll 1 = .ok (.istore_n 3, 1) := by decide +kernel
theorem dM_copyAll_2 : decode cM_copyAll 2 = .ok (.iload_n 3, 1) := by decide +kernel
theorem dM_copyAll_3 : decode cM_copyAll 3 = .ok (.sipush 1600, 3) := by decide +kernel
theorem dM_copyAll_6 : decode cM_copyAll 6 = .ok (.if_icmp .ge 33, 3) := by decide +kernel
theorem dM_copyAll_9 : decode cM_copyAll 9 = .ok (.aload_n 0, 1) := by decide +kernel
theorem dM_copyAll_10 : decode cM_copyAll 10 = .ok (.getfield 19, 3) := by decide +kernel
theorem dM_copyAll_13 : decode cM_copyAll 13 = .ok (.sipush 1600, 3) := by decide +kernel
theorem dM_copyAll_16 : decode cM_copyAll 16 = .ok (.iload_n 1, 1) := by decide +kernel
theorem dM_copyAll_17 : decode cM_copyAll 17 = .ok (.imul, 1) := by decide +kernel
theorem dM_copyAll_18 : decode cM_copyAll 18 = .ok (.iload_n 3, 1) := by decide +kernel
theorem dM_copyAll_19 : decode cM_copyAll 19 = .ok (.iadd, 1) := by decide +kernel
theorem dM_copyAll_20 : decode cM_copyAll 20 = .ok (.aload_n 0, 1) := by decide +kernel
theorem dM_copyAll_21 : decode cM_copyAll 21 = .ok (.getfield 19, 3) := by decide +kernel
theorem dM_copyAll_24 : decode cM_copyAll 24 = .ok (.sipush 1600, 3) := by decide +kernel
theorem dM_copyAll_27 : decode cM_copyAll 27 = .ok (.iload_n 2, 1) := by decide +kernel
theorem dM_copyAll_28 : decode cM_copyAll 28 = .ok (.imul, 1) := by decide +kernel
theorem dM_copyAll_29 : decode cM_copyAll 29 = .ok (.iload_n 3, 1) := by decide +kernel
theorem dM_copyAll_30 : decode cM_copyAll 30 = .ok (.iadd, 1) := by decide +kernel
theorem dM_copyAll_31 : decode cM_copyAll 31 = .ok (.baload, 1) := by decide +kernel
theorem dM_copyAll_32 : decode cM_copyAll 32 = .ok (.bastore, 1) := by decide +kernel
theorem dM_copyAll_33 : decode cM_copyAll 33 = .ok (.iinc 3 1, 3) := by decide +kernel
theorem dM_copyAll_36 : decode cM_copyAll 36 = .ok (.goto (-34), 3) := by decide +kernel
theorem dM_copyAll_39 : decode cM_copyAll 39 = .ok (.aload_n 0, 1) := by decide +kernel
theorem dM_copyAll_40 : decode cM_copyAll 40 = .ok (.getfield 23, 3) := by decide +kernel
theorem dM_copyAll_43 : decode cM_copyAll 43 = .ok (.iload_n 1, 1) := by decide +kernel
theorem dM_copyAll_44 : decode cM_copyAll 44 = .ok (.aload_n 0, 1) := by decide +kernel
theorem dM_copyAll_45 : decode cM_copyAll 45 = .ok (.getfield 23, 3) := by decide +kernel
theorem dM_copyAll_48 : decode cM_copyAll 48 = .ok (.iload_n 2, 1) := by decide +kernel
theorem dM_copyAll_49 : decode cM_copyAll 49 = .ok (.iaload, 1) := by decide +kernel
theorem dM_copyAll_50 : decode cM_copyAll 50 = .ok (.iastore, 1) := by decide +kernel
theorem dM_copyAll_51 : decode cM_copyAll 51 = .ok (.aload_n 0, 1) := by decide +kernel
theorem dM_copyAll_52 : decode cM_copyAll 52 = .ok (.getfield 26, 3) := by decide +kernel
theorem dM_copyAll_55 : decode cM_copyAll 55 = .ok (.iload_n 1, 1) := by decide +kernel
theorem dM_copyAll_56 : decode cM_copyAll 56 = .ok (.aload_n 0, 1) := by decide +kernel
theorem dM_copyAll_57 : decode cM_copyAll 57 = .ok (.getfield 26, 3) := by decide +kernel
theorem dM_copyAll_60 : decode cM_copyAll 60 = .ok (.iload_n 2, 1) := by decide +kernel
theorem dM_copyAll_61 : decode cM_copyAll 61 = .ok (.iaload, 1) := by decide +kernel
theorem dM_copyAll_62 : decode cM_copyAll 62 = .ok (.iastore, 1) := by decide +kernel
theorem dM_copyAll_63 : decode cM_copyAll 63 = .ok (.aload_n 0, 1) := by decide +kernel
theorem dM_copyAll_64 : decode cM_copyAll 64 = .ok (.getfield 29, 3) := by decide +kernel
theorem dM_copyAll_67 : decode cM_copyAll 67 = .ok (.iload_n 1, 1) := by decide +kernel
theorem dM_copyAll_68 : decode cM_copyAll 68 = .ok (.aload_n 0, 1) := by decide +kernel
theorem dM_copyAll_69 : decode cM_copyAll 69 = .ok (.getfield 29, 3) := by decide +kernel
theorem dM_copyAll_72 : decode cM_copyAll 72 = .ok (.iload_n 2, 1) := by decide +kernel
theorem dM_copyAll_73 : decode cM_copyAll 73 = .ok (.iaload, 1) := by decide +kernel
theorem dM_copyAll_74 : decode cM_copyAll 74 = .ok (.iastore, 1) := by decide +kernel
theorem dM_copyAll_75 : decode cM_copyAll 75 = .ok (.aload_n 0, 1) := by decide +kernel
theorem dM_copyAll_76 : decode cM_copyAll 76 = .ok (.getfield 32, 3) := by decide +kernel
theorem dM_copyAll_79 : decode cM_copyAll 79 = .ok (.iload_n 1, 1) := by decide +kernel
theorem dM_copyAll_80 : decode cM_copyAll 80 = .ok (.aload_n 0, 1) := by decide +kernel
theorem dM_copyAll_81 : decode cM_copyAll 81 = .ok (.getfield 32, 3) := by decide +kernel
theorem dM_copyAll_84 : decode cM_copyAll 84 = .ok (.iload_n 2, 1) := by decide +kernel
theorem dM_copyAll_85 : decode cM_copyAll 85 = .ok (.baload, 1) := by decide +kernel
theorem dM_copyAll_86 : decode cM_copyAll 86 = .ok (.bastore, 1) := by decide +kernel
theorem dM_copyAll_87 : decode cM_copyAll 87 = .ok (.aload_n 0, 1) := by decide +kernel
theorem dM_copyAll_88 : decode cM_copyAll 88 = .ok (.getfield 35, 3) := by decide +kernel
theorem dM_copyAll_91 : decode cM_copyAll 91 = .ok (.iload_n 1, 1) := by decide +kernel
theorem dM_copyAll_92 : decode cM_copyAll 92 = .ok (.aload_n 0, 1) := by decide +kernel
theorem dM_copyAll_93 : decode cM_copyAll 93 = .ok (.getfield 35, 3) := by decide +kernel
theorem dM_copyAll_96 : decode cM_copyAll 96 = .ok (.iload_n 2, 1) := by decide +kernel
theorem dM_copyAll_97 : decode cM_copyAll 97 = .ok (.iaload, 1) := by decide +kernel
theorem dM_copyAll_98 : decode cM_copyAll 98 = .ok (.iastore, 1) := by decide +kernel
theorem dM_copyAll_99 : decode cM_copyAll 99 = .ok (.aload_n 0, 1) := by decide +kernel
theorem dM_copyAll_100 : decode cM_copyAll 100 = .ok (.getfield 38, 3) := by decide +kernel
theorem dM_copyAll_103 : decode cM_copyAll 103 = .ok (.iload_n 1, 1) := by decide +kernel
theorem dM_copyAll_104 : decode cM_copyAll 104 = .ok (.aload_n 0, 1) := by decide +kernel
theorem dM_copyAll_105 : decode cM_copyAll 105 = .ok (.getfield 38, 3) := by decide +kernel
theorem dM_copyAll_108 : decode cM_copyAll 108 = .ok (.iload_n 2, 1) := by decide +kernel
theorem dM_copyAll_109 : decode cM_copyAll 109 = .ok (.iaload, 1) := by decide +kernel
theorem dM_copyAll_110 : decode cM_copyAll 110 = .ok (.iastore, 1) := by decide +kernel
theorem dM_copyAll_111 : decode cM_copyAll 111 = .ok (.return_, 1) := by decide +kernel
theorem dM_copy_0 : decode cM_copy 0 = .ok (.aload_n 0, 1) := by decide +kernel
theorem dM_copy_1 : decode cM_copy 1 = .ok (.iload_n 1, 1) := by decide +kernel
theorem dM_copy_2 : decode cM_copy 2 = .ok (.invokestatic 126, 3) := by decide +kernel
theorem dM_copy_5 : decode cM_copy 5 = .ok (.ifCond .eq 14, 3) := by decide +kernel
theorem dM_copy_8 : decode cM_copy 8 = .ok (.iload_n 2, 1) := by decide +kernel
theorem dM_copy_9 : decode cM_copy 9 = .ok (.invokestatic 126, 3) := by decide +kernel
theorem dM_copy_12 : decode cM_copy 12 = .ok (.ifCond .eq 7, 3) := by decide +kernel
theorem dM_copy_15 : decode cM_copy 15 = .ok (.iconst 0, 1) := by decide +kernel
theorem dM_copy_16 : decode cM_copy 16 = .ok (.goto 4, 3) := by decide +kernel
theorem dM_copy_19 : decode cM_copy 19 = .ok (.iconst 1, 1) := by decide +kernel
theorem dM_copy_20 : decode cM_copy 20 = .ok (.putfield 51, 3) := by decide +kernel
theorem dM_copy_23 : decode cM_copy 23 = .ok (.aload_n 0, 1) := by decide +kernel
theorem dM_copy_24 : decode cM_copy 24 = .ok (.getfield 51, 3) := by decide +kernel
theorem dM_copy_27 : decode cM_copy 27 = .ok (.ifCond .ne 9, 3) := by decide +kernel
theorem dM_copy_30 : decode cM_copy 30 = .ok (.aload_n 0, 1) := by decide +kernel
theorem dM_copy_31 : decode cM_copy 31 = .ok (.iload_n 1, 1) := by decide +kernel
theorem dM_copy_32 : decode cM_copy 32 = .ok (.iload_n 2, 1) := by decide +kernel
theorem dM_copy_33 : decode cM_copy 33 = .ok (.invokevirtual 141, 3) := by decide +kernel
theorem dM_copy_36 : decode cM_copy 36 = .ok (.return_, 1) := by decide +kernel
theorem dM_kind_0 : decode cM_kind 0 = .ok (.aload_n 0, 1) := by decide +kernel
theorem dM_kind_1 : decode cM_kind 1 = .ok (.iload_n 1, 1) := by decide +kernel
theorem dM_kind_2 : decode cM_kind 2 = .ok (.invokestatic 126, 3) := by decide +kernel
theorem dM_kind_5 : decode cM_kind 5 = .ok (.ifCond .eq 7, 3) := by decide +kernel
theorem dM_kind_8 : decode cM_kind 8 = .ok (.iconst 0, 1) := by decide +kernel
theorem dM_kind_9 : decode cM_kind 9 = .ok (.goto 4, 3) := by decide +kernel
theorem dM_kind_12 : decode cM_kind 12 = .ok (.iconst 1, 1) := by decide +kernel
theorem dM_kind_13 : decode cM_kind 13 = .ok (.putfield 51, 3) := by decide +kernel
theorem dM_kind_16 : decode cM_kind 16 = .ok (.aload_n 0, 1) := by decide +kernel
theorem dM_kind_17 : decode cM_kind 17 = .ok (.getfield 51, 3) := by decide +kernel
theorem dM_kind_20 : decode cM_kind 20 = .ok (.ifCond .le 7, 3) := by decide +kernel
theorem dM_kind_23 : decode cM_kind 23 = .ok (.iconst 0, 1) := by decide +kernel
theorem dM_kind_24 : decode cM_kind 24 = .ok (.goto 30, 3) := by decide +kernel
theorem dM_kind_27 : decode cM_kind 27 = .ok (.aload_n 0, 1) := by decide +kernel
theorem dM_kind_28 : decode cM_kind 28 = .ok (.getfield 32, 3) := by decide +kernel
theorem dM_kind_31 : decode cM_kind 31 = .ok (.iload_n 1, 1) := by decide +kernel
theorem dM_kind_32 : decode cM_kind 32 = .ok (.baload, 1) := by decide +kernel
theorem dM_kind_33 : decode cM_kind 33 = .ok (.ifCond .eq 15, 3) := by decide +kernel
theorem dM_kind_36 : decode cM_kind 36 = .ok (.aload_n 0, 1) := by decide +kernel
theorem dM_kind_37 : decode cM_kind 37 = .ok (.getfield 23, 3) := by decide +kernel
theorem dM_kind_40 : decode cM_kind 40 = .ok (.iload_n 1, 1) := by decide +kernel
theorem dM_kind_41 : decode cM_kind 41 = .ok (.iaload, 1) := by decide +kernel
theorem dM_kind_42 : decode cM_kind 42 = .ok (.bipush 16, 2) := by decide +kernel
theorem dM_kind_44 : decode cM_kind 44 = .ok (.iadd, 1) := by decide +kernel
theorem dM_kind_45 : decode cM_kind 45 = .ok (.goto 9, 3) := by decide +kernel
theorem dM_kind_48 : decode cM_kind 48 = .ok (.aload_n 0, 1) := by decide +kernel
theorem dM_kind_49 : decode cM_kind 49 = .ok (.getfield 23, 3) := by decide +kernel
theorem dM_kind_52 : decode cM_kind 52 = .ok (.iload_n 1, 1) := by decide +kernel
theorem dM_kind_53 : decode cM_kind 53 = .ok (.iaload, 1) := by decide +kernel
theorem dM_kind_54 : decode cM_kind 54 = .ok (.ireturn, 1) := by decide +kernel
theorem dM_same_0 : decode cM_same 0 = .ok (.aload_n 0, 1) := by decide +kernel
theorem dM_same_1 : decode cM_same 1 = .ok (.iload_n 1, 1) := by decide +kernel
theorem dM_same_2 : decode cM_same 2 = .ok (.invokestatic 126, 3) := by decide +kernel
theorem dM_same_5 : decode cM_same 5 = .ok (.ifCond .eq 10, 3) := by decide +kernel
theorem dM_same_8 : decode cM_same 8 = .ok (.iload_n 2, 1) := by decide +kernel
theorem dM_same_9 : decode cM_same 9 = .ok (.invokestatic 126, 3) := by decide +kernel
theorem dM_same_12 : decode cM_same 12 = .ok (.ifCond .ne 7, 3) := by decide +kernel
theorem dM_same_15 : decode cM_same 15 = .ok (.iconst 1, 1) := by decide +kernel
theorem dM_same_16 : decode cM_same 16 = .ok (.goto 19, 3) := by decide +kernel
theorem dM_same_19 : decode cM_same 19 = .ok (.iload_n 3, 1) := by decide +kernel
theorem dM_same_20 : decode cM_same 20 = .ok (.iconst 1, 1) := by decide +kernel
theorem dM_same_21 : decode cM_same 21 = .ok (.if_icmp .lt 9, 3) := by decide +kernel
theorem dM_same_24 : decode cM_same 24 = .ok (.iload_n 3, 1) := by decide +kernel
theorem dM_same_25 : decode cM_same 25 = .ok (.bipush 64, 2) := by decide +kernel
theorem dM_same_27 : decode cM_same 27 = .ok (.if_icmp .le 7, 3) := by decide +kernel
theorem dM_same_30 : decode cM_same 30 = .ok (.iconst 2, 1) := by decide +kernel
theorem dM_same_31 : decode cM_same 31 = .ok (.goto 4, 3) := by decide +kernel
theorem dM_same_34 : decode cM_same 34 = .ok (.iconst 0, 1) := by decide +kernel
theorem dM_same_35 : decode cM_same 35 = .ok (.putfield 51, 3) := by decide +kernel
theorem dM_same_38 : decode cM_same 38 = .ok (.aload_n 0, 1) := by decide +kernel
theorem dM_same_39 : decode cM_same 39 = .ok (.getfield 51, 3) := by decide +kernel
theorem dM_same_42 : decode cM_same 42 = .ok (.ifCond .le 5, 3) := by decide +kernel
theorem dM_same_45 : decode cM_same 45 = .ok (.iconst 0, 1) := by decide +kernel
theorem dM_same_46 : decode cM_same 46 = .ok (.ireturn, 1) := by decide +kernel
theorem dM_same_47 : decode cM_same 47 = .ok (.aload_n 0, 1) := by decide +kernel
theorem dM_same_48 : decode cM_same 48 = .ok (.aload_n 0, 1) := by decide +kernel
theorem dM_same_49 : decode cM_same 49 = .ok (.iload_n 1, 1) := by decide +kernel
theorem dM_same_50 : decode cM_same 50 = .ok (.iload_n 3, 1) := by decide +kernel
theorem dM_same_51 : decode cM_same 51 = .ok (.invokevirtual 135, 3) := by decide +kernel
theorem dM_same_54 : decode cM_same 54 = .ok (.ifCond .eq 16, 3) := by decide +kernel
theorem dM_same_57 : decode cM_same 57 = .ok (.aload_n 0, 1) := by decide +kernel
theorem dM_same_58 : decode cM_same 58 = .ok (.iload_n 2, 1) := by decide +kernel
theorem dM_same_59 : decode cM_same 59 = .ok (.iload_n 3, 1) := by decide +kernel
theorem dM_same_60 : decode cM_same 60 = .ok (.invokevirtual 135, 3) := by decide +kernel
theorem dM_same_63 : decode cM_same 63 = .ok (.ifCond .eq 7, 3) := by decide +kernel
theorem dM_same_66 : decode cM_same 66 = .ok (.iconst 0, 1) := by decide +kernel
theorem dM_same_67 : decode cM_same 67 = .ok (.goto 4, 3) := by decide +kernel
theorem dM_same_70 : decode cM_same 70 = .ok (.iconst 3, 1) := by decide +kernel
theorem dM_same_71 : decode cM_same 71 = .ok (.putfield 51, 3) := by decide +kernel
theorem dM_same_74 : decode cM_same 74 = .ok (.aload_n 0, 1) := by decide +kernel
theorem dM_same_75 : decode cM_same 75 = .ok (.getfield 51, 3) := by decide +kernel
theorem dM_same_78 : decode cM_same 78 = .ok (.ifCond .le 5, 3) := by decide +kernel
theorem dM_same_81 : decode cM_same 81 = .ok (.iconst 0, 1) := by decide +kernel
theorem dM_same_82 : decode cM_same 82 = .ok (.ireturn, 1) := by decide +kernel
theorem dM_same_83 : decode cM_same 83 = .ok (.aload_n 0, 1) := by decide +kernel
theorem dM_same_84 : decode cM_same 84 = .ok (.iconst 4, 1) := by decide +kernel
theorem dM_same_85 : decode cM_same 85 = .ok (.iload_n 1, 1) := by decide +kernel
theorem dM_same_86 : decode cM_same 86 = .ok (.invokevirtual 141, 3) := by decide +kernel
theorem dM_same_89 : decode cM_same 89 = .ok (.aload_n 0, 1) := by decide +kernel
theorem dM_same_90 : decode cM_same 90 = .ok (.iconst 5, 1) := by decide +kernel
theorem dM_same_91 : decode cM_same 91 = .ok (.iload_n 2, 1) := by decide +kernel
theorem dM_same_92 : decode cM_same 92 = .ok (.invokevirtual 141, 3) := by decide +kernel
theorem dM_same_95 : decode cM_same 95 = .ok (.iconst 1, 1) := by decide +kernel
theorem dM_same_96 : decode cM_same 96 = .ok (.istore 4, 2) := by decide +kernel
theorem dM_same_98 : decode cM_same 98 = .ok (.iconst 0, 1) := by decide +kernel
theorem dM_same_99 : decode cM_same 99 = .ok (.istore 5, 2) := by decide +kernel
theorem dM_same_101 : decode cM_same 101 = .ok (.iload 5, 2) := by decide +kernel
theorem dM_same_103 : decode cM_same 103 = .ok (.iload_n 3, 1) := by decide +kernel
theorem dM_same_104 : decode cM_same 104 = .ok (.if_icmp .ge 38, 3) := by decide +kernel
theorem dM_same_107 : decode cM_same 107 = .ok (.aload_n 0, 1) := by decide +kernel
theorem dM_same_108 : decode cM_same 108 = .ok (.iconst 4, 1) := by decide +kernel
theorem dM_same_109 : decode cM_same 109 = .ok (.invokevirtual 138, 3) := by decide +kernel
theorem dM_same_112 : decode cM_same 112 = .ok (.istore 6, 2) := by decide +kernel
theorem dM_same_114 : decode cM_same 114 = .ok (.aload_n 0, 1) := by decide +kernel
theorem dM_same_115 : decode cM_same 115 = .ok (.iconst 5, 1) := by decide +kernel
theorem dM_same_116 : decode cM_same 116 = .ok (.invokevirtual 138, 3) := by decide +kernel
theorem dM_same_119 : decode cM_same 119 = .ok (.iload 6, 2) := by decide +kernel
theorem dM_same_121 : decode cM_same 121 = .ok (.if_icmp .ne 12, 3) := by decide +kernel
theorem dM_same_124 : decode cM_same 124 = .ok (.iload 4, 2) := by decide +kernel
theorem dM_same_126 : decode cM_same 126 = .ok (.ifCond .eq 7, 3) := by decide +kernel
theorem dM_same_129 : decode cM_same 129 = .ok (.iconst 1, 1) := by decide +kernel
theorem dM_same_130 : decode cM_same 130 = .ok (.goto 4, 3) := by decide +kernel
theorem dM_same_133 : decode cM_same 133 = .ok (.iconst 0, 1) := by decide +kernel
theorem dM_same_134 : decode cM_same 134 = .ok (.istore 4, 2) := by decide +kernel
theorem dM_same_136 : decode cM_same 136 = .ok (.iinc 5 1, 3) := by decide +kernel
theorem dM_same_139 : decode cM_same 139 = .ok (.goto (-38), 3) := by decide +kernel
theorem dM_same_142 : decode cM_same 142 = .ok (.iload 4, 2) := by decide +kernel
theorem dM_same_144 : decode cM_same 144 = .ok (.ireturn, 1) := by decide +kernel
