theorem dK_init_0 : decode cK_init 0 = .ok (.aload_n 0, 1) := by decide +kernel
theorem dK_init_1 : decode cK_init 1 = .ok (.invokespecial 1, 3) := by decide +kernel
theorem dK_init_4 : decode cK_init 4 = .ok (.aload_n 0, 1) := by decide +kernel
theorem dK_init_5 : decode cK_init 5 = .ok (.new 7, 3) := by decide +kernel
theorem dK_init_8 : decode cK_init 8 = .ok (.dup, 1) := by decide +kernel
theorem dK_init_9 : decode cK_init 9 = .ok (.invokespecial 9, 3) := by decide +kernel
theorem dK_init_12 : decode cK_init 12 = .ok (.putfield 10, 3) := by decide +kernel
theorem dK_init_15 : decode cK_init 15 = .ok (.aload_n 0, 1) := by decide +kernel
theorem dK_init_16 : decode cK_init 16 = .ok (.new 7, 3) := by decide +kernel
theorem dK_init_19 : decode cK_init 19 = .ok (.dup, 1) := by decide +kernel
theorem dK_init_20 : decode cK_init 20 = .ok (.invokespecial 9, 3) := by decide +kernel
theorem dK_init_23 : decode cK_init 23 = .ok (.putfield 16, 3) := by decide +kernel
theorem dK_init_26 : decode cK_init 26 = .ok (.aload_n 0, 1) := by decide +kernel
theorem dK_init_27 : decode cK_init 27 = .ok (.new 7, 3) := by decide +kernel
theorem dK_init_30 : decode cK_init 30 = .ok (.dup, 1) := by decide +kernel
theorem dK_init_31 : decode cK_init 31 = .ok (.invokespecial 9, 3) := by decide +kernel
theorem dK_init_34 : decode cK_init 34 = .ok (.putfield 19, 3) := by decide +kernel
theorem dK_init_37 : decode cK_init 37 = .ok (.aload_n 0, 1) := by decide +kernel
theorem dK_init_38 : decode cK_init 38 = .ok (.new 7, 3) := by decide +kernel
theorem dK_init_41 : decode cK_init 41 = .ok (.dup, 1) := by decide +kernel
theorem dK_init_42 : decode cK_init 42 = .ok (.invokespecial 9, 3) := by decide +kernel
theorem dK_init_45 : decode cK_init 45 = .ok (.putfield 22, 3) := by decide +kernel
theorem dK_init_48 : decode cK_init 48 = .ok (.aload_n 0, 1) := by decide +kernel
theorem dK_init_49 : decode cK_init 49 = .ok (.iconst 4, 1) := by decide +kernel
theorem dK_init_50 : decode cK_init 50 = .ok (.anewarray 25, 3) := by decide +kernel
theorem dK_init_53 : decode cK_init 53 = .ok (.putfield 27, 3) := by decide +kernel
theorem dK_init_56 : decode cK_init 56 = .ok (.iconst 0, 1) := by decide +kernel
theorem dK_init_57 : decode cK_init 57 = .ok (.istore_n 1, 1) := by decide +kernel
theorem dK_init_58 : decode cK_init 58 = .ok (.iload_n 1, 1) := by decide +kernel
theorem dK_init_59 : decode cK_init 59 = .ok (.iconst 4, 1) := by decide +kernel
theorem dK_init_60 : decode cK_init 60 = .ok (.if_icmp .ge 22, 3) := by decide +kernel
theorem dK_init_63 : decode cK_init 63 = .ok (.aload_n 0, 1) := by decide +kernel
theorem dK_init_64 : decode cK_init 64 = .ok (.getfield 27, 3) := by decide +kernel
theorem dK_init_67 : decode cK_init 67 = .ok (.iload_n 1, 1) := by decide +kernel
theorem dK_init_68 : decode cK_init 68 = .ok (.new 25, 3) := by decide +kernel
theorem dK_init_71 : decode cK_init 71 = .ok (.dup, 1) := by decide +kernel
theorem dK_init_72 : decode cK_init 72 = .ok (.invokespecial 31, 3) := by decide +kernel
theorem dK_init_75 : decode cK_init 75 = .ok (.aastore, 1) := by decide +kernel
theorem dK_init_76 : decode cK_init 76 = .ok (.iinc 1 1, 3) := by decide +kernel
theorem dK_init_79 : decode cK_init 79 = .ok (.goto (-21), 3) := by decide +kernel
theorem dK_init_82 : decode cK_init 82 = .ok (.aload_n 0, 1) := by decide +kernel
theorem dK_init_83 : decode cK_init 83 = .ok (.new 25, 3) := by decide +kernel
theorem dK_init_86 : decode cK_init 86 = .ok (.dup, 1) := by decide +kernel
theorem dK_init_87 : decode cK_init 87 = .ok (.invokespecial 31, 3) := by decide +kernel
theorem dK_init_90 : decode cK_init 90 = .ok (.putfield 32, 3) := by decide +kernel
theorem dK_init_93 : decode cK_init 93 = .ok (.aload_n 0, 1) := by decide +kernel
theorem dK_init_94 : decode cK_init 94 = .ok (.new 25, 3) := by decide +kernel
theorem dK_init_97 : decode cK_init 97 = .ok (.dup, 1) := by decide +kernel
theorem dK_init_98 : decode cK_init 98 = .ok (.invokespecial 31, 3) := by decide +kernel
theorem dK_init_101 : decode cK_init 101 = .ok (.putfield 36, 3) := by decide +kernel
theorem dK_init_104 : decode cK_init 104 = .ok (.return_, 1) := by decide +kernel
theorem dK_feed_0 : decode cK_feed 0 = .ok (.iload_n 1, 1) := by decide +kernel
theorem dK_feed_1 : decode cK_feed 1 = .ok (.invokestatic 39, 3) := by decide +kernel
theorem dK_feed_4 : decode cK_feed 4 = .ok (.invokestatic 43, 3) := by decide +kernel
theorem dK_feed_7 : decode cK_feed 7 = .ok (.aload_n 0, 1) := by decide +kernel
theorem dK_feed_8 : decode cK_feed 8 = .ok (.getfield 10, 3) := by decide +kernel
theorem dK_feed_11 : decode cK_feed 11 = .ok (.iload_n 1, 1) := by decide +kernel
theorem dK_feed_12 : decode cK_feed 12 = .ok (.invokevirtual 47, 3) := by decide +kernel
theorem dK_feed_15 : decode cK_feed 15 = .ok (.ifCond .eq 15, 3) := by decide +kernel
theorem dK_feed_18 : decode cK_feed 18 = .ok (.aload_n 0, 1) := by decide +kernel
theorem dK_feed_19 : decode cK_feed 19 = .ok (.getfield 10, 3) := by decide +kernel
theorem dK_feed_22 : decode cK_feed 22 = .ok (.iload_n 1, 1) := by decide +kernel
theorem dK_feed_23 : decode cK_feed 23 = .ok (.lload_n 2, 1) := by decide +kernel
theorem dK_feed_24 : decode cK_feed 24 = .ok (.invokevirtual 50, 3) := by decide +kernel
theorem dK_feed_27 : decode cK_feed 27 = .ok (.goto 4, 3) := by decide +kernel
theorem dK_feed_30 : decode cK_feed 30 = .ok (.iconst (-1), 1) := by decide +kernel
theorem dK_feed_31 : decode cK_feed 31 = .ok (.ireturn, 1) := by decide +kernel
theorem dK_wipe_0 : decode cK_wipe 0 = .ok (.aload_n 0, 1) := by decide +kernel
theorem dK_wipe_1 : decode cK_wipe 1 = .ok (.getfield 10, 3) := by decide +kernel
theorem dK_wipe_4 : decode cK_wipe 4 = .ok (.getfield 54, 3) := by decide +kernel
theorem dK_wipe_7 : decode cK_wipe 7 = .ok (.istore_n 1, 1) := by decide +kernel
theorem dK_wipe_8 : decode cK_wipe 8 = .ok (.aload_n 0, 1) := by decide +kernel
theorem dK_wipe_9 : decode cK_wipe 9 = .ok (.getfield 10, 3) := by decide +kernel
theorem dK_wipe_12 : decode cK_wipe 12 = .ok (.iconst 0, 1) := by decide +kernel
theorem dK_wipe_13 : decode cK_wipe 13 = .ok (.putfield 54, 3) := by decide +kernel
theorem dK_wipe_16 : decode cK_wipe 16 = .ok (.iload_n 1, 1) := by decide +kernel
theorem dK_wipe_17 : decode cK_wipe 17 = .ok (.ireturn, 1) := by decide +kernel
theorem dK_let_0 : decode cK_let 0 = .ok (.iload_n 1, 1) := by decide +kernel
theorem dK_let_1 : decode cK_let 1 = .ok (.ifCond .lt 12, 3) := by decide +kernel
theorem dK_let_4 : decode cK_let 4 = .ok (.iload_n 1, 1) := by decide +kernel
theorem dK_let_5 : decode cK_let 5 = .ok (.iconst 2, 1) := by decide +kernel
theorem dK_let_6 : decode cK_let 6 = .ok (.if_icmp .gt 7, 3) := by decide +kernel
theorem dK_let_9 : decode cK_let 9 = .ok (.iconst 1, 1) := by decide +kernel
theorem dK_let_10 : decode cK_let 10 = .ok (.goto 4, 3) := by decide +kernel
theorem dK_let_13 : decode cK_let 13 = .ok (.iconst 0, 1) := by decide +kernel
theorem dK_let_14 : decode cK_let 14 = .ok (.invokestatic 43, 3) := by decide +kernel
theorem dK_let_17 : decode cK_let 17 = .ok (.iload_n 1, 1) := by decide +kernel
theorem dK_let_18 : decode cK_let 18 = .ok (.ifCond .ne 10, 3) := by decide +kernel
theorem dK_let_21 : decode cK_let 21 = .ok (.aload_n 0, 1) := by decide +kernel
theorem dK_let_22 : decode cK_let 22 = .ok (.getfield 16, 3) := by decide +kernel
theorem dK_let_25 : decode cK_let 25 = .ok (.goto 19, 3) := by decide +kernel
theorem dK_let_28 : decode cK_let 28 = .ok (.iload_n 1, 1) := by decide +kernel
theorem dK_let_29 : decode cK_let 29 = .ok (.iconst 1, 1) := by decide +kernel
theorem dK_let_30 : decode cK_let 30 = .ok (.if_icmp .ne 10, 3) := by decide +kernel
theorem dK_let_33 : decode cK_let 33 = .ok (.aload_n 0, 1) := by decide +kernel
theorem dK_let_34 : decode cK_let 34 = .ok (.getfield 19, 3) := by decide +kernel
theorem dK_let_37 : decode cK_let 37 = .ok (.goto 7, 3) := by decide +kernel
theorem dK_let_40 : decode cK_let 40 = .ok (.aload_n 0, 1) := by decide +kernel
theorem dK_let_41 : decode cK_let 41 = .ok (.getfield 22, 3) := by decide +kernel
theorem dK_let_44 : decode cK_let 44 = .ok (.astore_n 2, 1) := by decide +kernel
theorem dK_let_45 : decode cK_let 45 = .ok (.aload_n 2, 1) := by decide +kernel
theorem dK_let_46 : decode cK_let 46 = .ok (.aload_n 0, 1) := by decide +kernel
theorem dK_let_47 : decode cK_let 47 = .ok (.getfield 10, 3) := by decide +kernel
theorem dK_let_50 : decode cK_let 50 = .ok (.invokevirtual 58, 3) := by decide +kernel
theorem dK_let_53 : decode cK_let 53 = .ok (.aload_n 0, 1) := by decide +kernel
theorem dK_let_54 : decode cK_let 54 = .ok (.getfield 10, 3) := by decide +kernel
theorem dK_let_57 : decode cK_let 57 = .ok (.iconst 0, 1) := by decide +kernel
theorem dK_let_58 : decode cK_let 58 = .ok (.putfield 54, 3) := by decide +kernel
theorem dK_let_61 : decode cK_let 61 = .ok (.aload_n 2, 1) := by decide +kernel
theorem dK_let_62 : decode cK_let 62 = .ok (.getfield 54, 3) := by decide +kernel
theorem dK_let_65 : decode cK_let 65 = .ok (.ireturn, 1) := by decide +kernel
theorem dK_begin_0 : decode cK_begin 0 = .ok (.aload_n 0, 1) := by decide +kernel
theorem dK_begin_1 : decode cK_begin 1 = .ok (.iload_n 1, 1) := by decide +kernel
theorem dK_begin_2 : decode cK_begin 2 = .ok (.invokevirtual 62, 3) := by decide +kernel
theorem dK_begin_5 : decode cK_begin 5 = .ok (.astore_n 3, 1) := by decide +kernel
theorem dK_begin_6 : decode cK_begin 6 = .ok (.iload_n 2, 1) := by decide +kernel
theorem dK_begin_7 : decode cK_begin 7 = .ok (.ifCond .lt 13, 3) := by decide +kernel
theorem dK_begin_10 : decode cK_begin 10 = .ok (.iload_n 2, 1) := by decide +kernel
theorem dK_begin_11 : decode cK_begin 11 = .ok (.bipush 15, 2) := by decide +kernel
theorem dK_begin_13 : decode cK_begin 13 = .ok (.if_icmp .gt 7, 3) := by decide +kernel
theorem dK_begin_16 : decode cK_begin 16 = .ok (.iconst 1, 1) := by decide +kernel
theorem dK_begin_17 : decode cK_begin 17 = .ok (.goto 4, 3) := by decide +kernel
theorem dK_begin_20 : decode cK_begin 20 = .ok (.iconst 0, 1) := by decide +kernel
theorem dK_begin_21 : decode cK_begin 21 = .ok (.invokestatic 43, 3) := by decide +kernel
theorem dK_begin_24 : decode cK_begin 24 = .ok (.aload_n 3, 1) := by decide +kernel
theorem dK_begin_25 : decode cK_begin 25 = .ok (.iload_n 2, 1) := by decide +kernel
theorem dK_begin_26 : decode cK_begin 26 = .ok (.invokevirtual 66, 3) := by decide +kernel
theorem dK_begin_29 : decode cK_begin 29 = .ok (.iload_n 2, 1) := by decide +kernel
theorem dK_begin_30 : decode cK_begin 30 = .ok (.bipush 12, 2) := by decide +kernel
theorem dK_begin_32 : decode cK_begin 32 = .ok (.if_icmp .lt 21, 3) := by decide +kernel
theorem dK_begin_35 : decode cK_begin 35 = .ok (.aload_n 3, 1) := by decide +kernel
theorem dK_begin_36 : decode cK_begin 36 = .ok (.getstatic 70, 3) := by decide +kernel
theorem dK_begin_39 : decode cK_begin 39 = .ok (.getstatic 70, 3) := by decide +kernel
theorem dK_begin_42 : decode cK_begin 42 = .ok (.arraylength, 1) := by decide +kernel
theorem dK_begin_43 : decode cK_begin 43 = .ok (.aload_n 0, 1) := by decide +kernel
theorem dK_begin_44 : decode cK_begin 44 = .ok (.getfield 19, 3) := by decide +kernel
theorem dK_begin_47 : decode cK_begin 47 = .ok (.invokevirtual 74, 3) := by decide +kernel
theorem dK_begin_50 : decode cK_begin 50 = .ok (.goto 81, 3) := by decide +kernel
theorem dK_begin_53 : decode cK_begin 53 = .ok (.iload_n 2, 1) := by decide +kernel
theorem dK_begin_54 : decode cK_begin 54 = .ok (.bipush 8, 2) := by decide +kernel
theorem dK_begin_56 : decode cK_begin 56 = .ok (.if_icmp .lt 29, 3) := by decide +kernel
theorem dK_begin_59 : decode cK_begin 59 = .ok (.aload_n 3, 1) := by decide +kernel
theorem dK_begin_60 : decode cK_begin 60 = .ok (.getstatic 78, 3) := by decide +kernel
theorem dK_begin_63 : decode cK_begin 63 = .ok (.getstatic 78, 3) := by decide +kernel
theorem dK_begin_66 : decode cK_begin 66 = .ok (.arraylength, 1) := by decide +kernel
theorem dK_begin_67 : decode cK_begin 67 = .ok (.aload_n 0, 1) := by decide +kernel
theorem dK_begin_68 : decode cK_begin 68 = .ok (.getfield 19, 3) := by decide +kernel
theorem dK_begin_71 : decode cK_begin 71 = .ok (.invokevirtual 74, 3) := by decide +kernel
theorem dK_begin_74 : decode cK_begin 74 = .ok (.aload_n 3, 1) := by decide +kernel
theorem dK_begin_75 : decode cK_begin 75 = .ok (.aload_n 0, 1) := by decide +kernel
theorem dK_begin_76 : decode cK_begin 76 = .ok (.getfield 22, 3) := by decide +kernel
theorem dK_begin_79 : decode cK_begin 79 = .ok (.invokevirtual 81, 3) := by decide +kernel
theorem dK_begin_82 : decode cK_begin 82 = .ok (.goto 49, 3) := by decide +kernel
theorem dK_begin_85 : decode cK_begin 85 = .ok (.iload_n 2, 1) := by decide +kernel
theorem dK_begin_86 : decode cK_begin 86 = .ok (.bipush 6, 2) := by decide +kernel
theorem dK_begin_88 : decode cK_begin 88 = .ok (.if_icmp .lt 43, 3) := by decide +kernel
theorem dK_begin_91 : decode cK_begin 91 = .ok (.aload_n 0, 1) := by decide +kernel
theorem dK_begin_92 : decode cK_begin 92 = .ok (.getfield 16, 3) := by decide +kernel
theorem dK_begin_95 : decode cK_begin 95 = .ok (.getfield 54, 3) := by decide +kernel
theorem dK_begin_98 : decode cK_begin 98 = .ok (.aload_n 0, 1) := by decide +kernel
theorem dK_begin_99 : decode cK_begin 99 = .ok (.getfield 19, 3) := by decide +kernel
theorem dK_begin_102 : decode cK_begin 102 = .ok (.getfield 54, 3) := by decide +kernel
theorem dK_begin_105 : decode cK_begin 105 = .ok (.iadd, 1) := by decide +kernel
theorem dK_begin_106 : decode cK_begin 106 = .ok (.ifCond .le 25, 3) := by decide +kernel
theorem dK_begin_109 : decode cK_begin 109 = .ok (.aload_n 3, 1) := by decide +kernel
theorem dK_begin_110 : decode cK_begin 110 = .ok (.aload_n 0, 1) := by decide +kernel
theorem dK_begin_111 : decode cK_begin 111 = .ok (.getfield 16, 3) := by decide +kernel
theorem dK_begin_114 : decode cK_begin 114 = .ok (.getfield 84, 3) := by decide +kernel
theorem dK_begin_117 : decode cK_begin 117 = .ok (.aload_n 0, 1) := by decide +kernel
theorem dK_begin_118 : decode cK_begin 118 = .ok (.getfield 16, 3) := by decide +kernel
theorem dK_begin_121 : decode cK_begin 121 = .ok (.getfield 54, 3) := by decide +kernel
theorem dK_begin_124 : decode cK_begin 124 = .ok (.aload_n 0, 1) := by decide +kernel
theorem dK_begin_125 : decode cK_begin 125 = .ok (.getfield 19, 3) := by decide +kernel
theorem dK_begin_128 : decode cK_begin 128 = .ok (.invokevirtual 74, 3) := by decide +kernel
theorem dK_begin_131 : decode cK_begin 131 = .ok (.return_, 1) := by decide +kernel
theorem dK_absorb_0 : decode cK_absorb 0 = .ok (.aload_n 0, 1) := by decide +kernel
theorem dK_absorb_1 : decode cK_absorb 1 = .ok (.iload_n 1, 1) := by decide +kernel
theorem dK_absorb_2 : decode cK_absorb 2 = .ok (.invokevirtual 62, 3) := by decide +kernel
theorem dK_absorb_5 : decode cK_absorb 5 = .ok (.astore_n 2, 1) := by decide +kernel
theorem dK_absorb_6 : decode cK_absorb 6 = .ok (.aload_n 2, 1) := by decide +kernel
theorem dK_absorb_7 : decode cK_absorb 7 = .ok (.getfield 87, 3) := by decide +kernel
theorem dK_absorb_10 : decode cK_absorb 10 = .ok (.ifCond .ne 7, 3) := by decide +kernel
theorem dK_absorb_13 : decode cK_absorb 13 = .ok (.iconst 1, 1) := by decide +kernel
theorem dK_absorb_14 : decode cK_absorb 14 = .ok (.goto 4, 3) := by decide +kernel
theorem dK_absorb_17 : decode cK_absorb 17 = .ok (.iconst 0, 1) := by decide +kernel
theorem dK_absorb_18 : decode cK_absorb 18 = .ok (.invokestatic 91, 3) := by decide +kernel
theorem dK_absorb_21 : decode cK_absorb 21 = .ok (.aload_n 2, 1) := by decide +kernel
theorem dK_absorb_22 : decode cK_absorb 22 = .ok (.aload_n 0, 1) := by decide +kernel
theorem dK_absorb_23 : decode cK_absorb 23 = .ok (.getfield 10, 3) := by decide +kernel
theorem dK_absorb_26 : decode cK_absorb 26 = .ok (.invokevirtual 94, 3) := by decide +kernel
theorem dK_absorb_29 : decode cK_absorb 29 = .ok (.ireturn, 1) := by decide +kernel
theorem dK_bytes_0 : decode cK_bytes 0 = .ok (.aload_n 0, 1) := by decide +kernel
theorem dK_bytes_1 : decode cK_bytes 1 = .ok (.iload_n 1, 1) := by decide +kernel
theorem dK_bytes_2 : decode cK_bytes 2 = .ok (.invokevirtual 62, 3) := by decide +kernel
theorem dK_bytes_5 : decode cK_bytes 5 = .ok (.astore 5, 2) := by decide +kernel
theorem dK_bytes_7 : decode cK_bytes 7 = .ok (.iload_n 2, 1) := by decide +kernel
theorem dK_bytes_8 : decode cK_bytes 8 = .ok (.invokestatic 39, 3) := by decide +kernel
theorem dK_bytes_11 : decode cK_bytes 11 = .ok (.invokestatic 43, 3) := by decide +kernel
theorem dK_bytes_14 : decode cK_bytes 14 = .ok (.aload 5, 2) := by decide +kernel
theorem dK_bytes_16 : decode cK_bytes 16 = .ok (.getfield 87, 3) := by decide +kernel
theorem dK_bytes_19 : decode cK_bytes 19 = .ok (.ifCond .ne 17, 3) := by decide +kernel
theorem dK_bytes_22 : decode cK_bytes 22 = .ok (.aload 5, 2) := by decide +kernel
theorem dK_bytes_24 : decode cK_bytes 24 = .ok (.getfield 98, 3) := by decide +kernel
theorem dK_bytes_27 : decode cK_bytes 27 = .ok (.bipush 12, 2) := by decide +kernel
theorem dK_bytes_29 : decode cK_bytes 29 = .ok (.if_icmp .ge 7, 3) := by decide +kernel
theorem dK_bytes_32 : decode cK_bytes 32 = .ok (.iconst 1, 1) := by decide +kernel
theorem dK_bytes_33 : decode cK_bytes 33 = .ok (.goto 4, 3) := by decide +kernel
theorem dK_bytes_36 : decode cK_bytes 36 = .ok (.iconst 0, 1) := by decide +kernel
theorem dK_bytes_37 : decode cK_bytes 37 = .ok (.invokestatic 91, 3) := by decide +kernel
theorem dK_bytes_40 : decode cK_bytes 40 = .ok (.aload 5, 2) := by decide +kernel
theorem dK_bytes_42 : decode cK_bytes 42 = .ok (.iload_n 2, 1) := by decide +kernel
theorem dK_bytes_43 : decode cK_bytes 43 = .ok (.lload_n 3, 1) := by decide +kernel
theorem dK_bytes_44 : decode cK_bytes 44 = .ok (.invokevirtual 101, 3) := by decide +kernel
theorem dK_bytes_47 : decode cK_bytes 47 = .ok (.ireturn, 1) := by decide +kernel
theorem dK_end_0 : decode cK_end 0 = .ok (.aload_n 0, 1) := by decide +kernel
theorem dK_end_1 : decode cK_end 1 = .ok (.iload_n 1, 1) := by decide +kernel
theorem dK_end_2 : decode cK_end 2 = .ok (.invokevirtual 62, 3) := by decide +kernel
theorem dK_end_5 : decode cK_end 5 = .ok (.astore_n 3, 1) := by decide +kernel
theorem dK_end_6 : decode cK_end 6 = .ok (.aload_n 3, 1) := by decide +kernel
theorem dK_end_7 : decode cK_end 7 = .ok (.getfield 98, 3) := by decide +kernel
theorem dK_end_10 : decode cK_end 10 = .ok (.iload_n 2, 1) := by decide +kernel
theorem dK_end_11 : decode cK_end 11 = .ok (.invokestatic 104, 3) := by decide +kernel
theorem dK_end_14 : decode cK_end 14 = .ok (.invokestatic 43, 3) := by decide +kernel
theorem dK_end_17 : decode cK_end 17 = .ok (.aload_n 3, 1) := by decide +kernel
theorem dK_end_18 : decode cK_end 18 = .ok (.getfield 87, 3) := by decide +kernel
theorem dK_end_21 : decode cK_end 21 = .ok (.ifCond .ne 7, 3) := by decide +kernel
theorem dK_end_24 : decode cK_end 24 = .ok (.iconst 1, 1) := by decide +kernel
theorem dK_end_25 : decode cK_end 25 = .ok (.goto 4, 3) := by decide +kernel
theorem dK_end_28 : decode cK_end 28 = .ok (.iconst 0, 1) := by decide +kernel
theorem dK_end_29 : decode cK_end 29 = .ok (.invokestatic 91, 3) := by decide +kernel
theorem dK_end_32 : decode cK_end 32 = .ok (.aload_n 3, 1) := by decide +kernel
theorem dK_end_33 : decode cK_end 33 = .ok (.iload_n 2, 1) := by decide +kernel
theorem dK_end_34 : decode cK_end 34 = .ok (.invokevirtual 108, 3) := by decide +kernel
theorem dK_end_37 : decode cK_end 37 = .ok (.return_, 1) := by decide +kernel
theorem dK_squeeze_0 : decode cK_squeeze 0 = .ok (.aload_n 0, 1) := by decide +kernel
theorem dK_squeeze_1 : decode cK_squeeze 1 = .ok (.iload_n 1, 1) := by decide +kernel
theorem dK_squeeze_2 : decode cK_squeeze 2 = .ok (.invokevirtual 62, 3) := by decide +kernel
theorem dK_squeeze_5 : decode cK_squeeze 5 = .ok (.astore_n 3, 1) := by decide +kernel
theorem dK_squeeze_6 : decode cK_squeeze 6 = .ok (.iload_n 2, 1) := by decide +kernel
theorem dK_squeeze_7 : decode cK_squeeze 7 = .ok (.invokestatic 39, 3) := by decide +kernel
theorem dK_squeeze_10 : decode cK_squeeze 10 = .ok (.invokestatic 43, 3) := by decide +kernel
theorem dK_squeeze_13 : decode cK_squeeze 13 = .ok (.aload_n 3, 1) := by decide +kernel
theorem dK_squeeze_14 : decode cK_squeeze 14 = .ok (.iload_n 2, 1) := by decide +kernel
theorem dK_squeeze_15 : decode cK_squeeze 15 = .ok (.invokevirtual 111, 3) := by decide +kernel
theorem dK_squeeze_18 : decode cK_squeeze 18 = .ok (.invokestatic 91, 3) := by decide +kernel
theorem dK_squeeze_21 : decode cK_squeeze 21 = .ok (.aload_n 3, 1) := by decide +kernel
theorem dK_squeeze_22 : decode cK_squeeze 22 = .ok (.iload_n 2, 1) := by decide +kernel
theorem dK_squeeze_23 : decode cK_squeeze 23 = .ok (.invokevirtual 114, 3) := by decide +kernel
theorem dK_squeeze_26 : decode cK_squeeze 26 = .ok (.lreturn, 1) := by decide +kernel
theorem dK_left_0 : decode cK_left 0 = .ok (.aload_n 0, 1) := by decide +kernel
theorem dK_left_1 : decode cK_left 1 = .ok (.iload_n 1, 1) := by decide +kernel
theorem dK_left_2 : decode cK_left 2 = .ok (.invokevirtual 62, 3) := by decide +kernel
theorem dK_left_5 : decode cK_left 5 = .ok (.getfield 118, 3) := by decide +kernel
theorem dK_left_8 : decode cK_left 8 = .ok (.ireturn, 1) := by decide +kernel
theorem dK_copy_0 : decode cK_copy 0 = .ok (.aload_n 0, 1) := by decide +kernel
theorem dK_copy_1 : decode cK_copy 1 = .ok (.iload_n 1, 1) := by decide +kernel
theorem dK_copy_2 : decode cK_copy 2 = .ok (.invokevirtual 62, 3) := by decide +kernel
theorem dK_copy_5 : decode cK_copy 5 = .ok (.astore_n 3, 1) := by decide +kernel
theorem dK_copy_6 : decode cK_copy 6 = .ok (.aload_n 3, 1) := by decide +kernel
theorem dK_copy_7 : decode cK_copy 7 = .ok (.aload_n 0, 1) := by decide +kernel
theorem dK_copy_8 : decode cK_copy 8 = .ok (.iload_n 2, 1) := by decide +kernel
theorem dK_copy_9 : decode cK_copy 9 = .ok (.invokevirtual 62, 3) := by decide +kernel
theorem dK_copy_12 : decode cK_copy 12 = .ok (.invokevirtual 121, 3) := by decide +kernel
theorem dK_copy_15 : decode cK_copy 15 = .ok (.return_, 1) := by decide +kernel
theorem dK_kind_0 : decode cK_kind 0 = .ok (.aload_n 0, 1) := by decide +kernel
theorem dK_kind_1 : decode cK_kind 1 = .ok (.iload_n 1, 1) := by decide +kernel
theorem dK_kind_2 : decode cK_kind 2 = .ok (.invokevirtual 62, 3) := by decide +kernel
theorem dK_kind_5 : decode cK_kind 5 = .ok (.astore_n 2, 1) := by decide +kernel
theorem dK_kind_6 : decode cK_kind 6 = .ok (.aload_n 2, 1) := by decide +kernel
theorem dK_kind_7 : decode cK_kind 7 = .ok (.getfield 87, 3) := by decide +kernel
theorem dK_kind_10 : decode cK_kind 10 = .ok (.ifCond .eq 15, 3) := by decide +kernel
theorem dK_kind_13 : decode cK_kind 13 = .ok (.aload_n 2, 1) := by decide +kernel
theorem dK_kind_14 : decode cK_kind 14 = .ok (.getfield 98, 3) := by decide +kernel
theorem dK_kind_17 : decode cK_kind 17 = .ok (.bipush 15, 2) := by decide +kernel
theorem dK_kind_19 : decode cK_kind 19 = .ok (.iadd, 1) := by decide +kernel
theorem dK_kind_20 : decode cK_kind 20 = .ok (.iconst 1, 1) := by decide +kernel
theorem dK_kind_21 : decode cK_kind 21 = .ok (.iadd, 1) := by decide +kernel
theorem dK_kind_22 : decode cK_kind 22 = .ok (.goto 7, 3) := by decide +kernel
theorem dK_kind_25 : decode cK_kind 25 = .ok (.aload_n 2, 1) := by decide +kernel
theorem dK_kind_26 : decode cK_kind 26 = .ok (.getfield 98, 3) := by decide +kernel
theorem dK_kind_29 : decode cK_kind 29 = .ok (.ireturn, 1) := by decide +kernel
theorem dK_same_0 : decode cK_same 0 = .ok (.aload_n 0, 1) := by decide +kernel
theorem dK_same_1 : decode cK_same 1 = .ok (.iload_n 1, 1) := by decide +kernel
theorem dK_same_2 : decode cK_same 2 = .ok (.invokevirtual 62, 3) := by decide +kernel
theorem dK_same_5 : decode cK_same 5 = .ok (.astore 4, 2) := by decide +kernel
theorem dK_same_7 : decode cK_same 7 = .ok (.aload_n 0, 1) := by decide +kernel
theorem dK_same_8 : decode cK_same 8 = .ok (.iload_n 2, 1) := by decide +kernel
theorem dK_same_9 : decode cK_same 9 = .ok (.invokevirtual 62, 3) := by decide +kernel
theorem dK_same_12 : decode cK_same 12 = .ok (.astore 5, 2) := by decide +kernel
theorem dK_same_14 : decode cK_same 14 = .ok (.iload_n 3, 1) := by decide +kernel
theorem dK_same_15 : decode cK_same 15 = .ok (.iconst 1, 1) := by decide +kernel
theorem dK_same_16 : decode cK_same 16 = .ok (.if_icmp .lt 13, 3) := by decide +kernel
theorem dK_same_19 : decode cK_same 19 = .ok (.iload_n 3, 1) := by decide +kernel
theorem dK_same_20 : decode cK_same 20 = .ok (.bipush 64, 2) := by decide +kernel
theorem dK_same_22 : decode cK_same 22 = .ok (.if_icmp .gt 7, 3) := by decide +kernel
theorem dK_same_25 : decode cK_same 25 = .ok (.iconst 1, 1) := by decide +kernel
theorem dK_same_26 : decode cK_same 26 = .ok (.goto 4, 3) := by decide +kernel
theorem dK_same_29 : decode cK_same 29 = .ok (.iconst 0, 1) := by decide +kernel
theorem dK_same_30 : decode cK_same 30 = .ok (.invokestatic 43, 3) := by decide +kernel
theorem dK_same_33 : decode cK_same 33 = .ok (.aload 4, 2) := by decide +kernel
theorem dK_same_35 : decode cK_same 35 = .ok (.iload_n 3, 1) := by decide +kernel
theorem dK_same_36 : decode cK_same 36 = .ok (.invokevirtual 111, 3) := by decide +kernel
theorem dK_same_39 : decode cK_same 39 = .ok (.ifCond .eq 16, 3) := by decide +kernel
theorem dK_same_42 : decode cK_same 42 = .ok (.aload 5, 2) := by decide +kernel
theorem dK_same_44 : decode cK_same 44 = .ok (.iload_n 3, 1) := by decide +kernel
theorem dK_same_45 : decode cK_same 45 = .ok (.invokevirtual 111, 3) := by decide +kernel
theorem dK_same_48 : decode cK_same 48 = .ok (.ifCond .eq 7, 3) := by decide +kernel
theorem dK_same_51 : decode cK_same 51 = .ok (.iconst 1, 1) := by decide +kernel
theorem dK_same_52 : decode cK_same 52 = .ok (.goto 4, 3) := by decide +kernel
theorem dK_same_55 : decode cK_same 55 = .ok (.iconst 0, 1) := by decide +kernel
theorem dK_same_56 : decode cK_same 56 = .ok (.invokestatic 91, 3) := by decide +kernel
theorem dK_same_59 : decode cK_same 59 = .ok (.aload_n 0, 1) := by decide +kernel
theorem dK_same_60 : decode cK_same 60 = .ok (.getfield 32, 3) := by decide +kernel
theorem dK_same_63 : decode cK_same 63 = .ok (.aload 4, 2) := by decide +kernel
theorem dK_same_65 : decode cK_same 65 = .ok (.invokevirtual 121, 3) := by decide +kernel
theorem dK_same_68 : decode cK_same 68 = .ok (.aload_n 0, 1) := by decide +kernel
theorem dK_same_69 : decode cK_same 69 = .ok (.getfield 36, 3) := by decide +kernel
theorem dK_same_72 : decode cK_same 72 = .ok (.aload 5, 2) := by decide +kernel
theorem dK_same_74 : decode cK_same 74 = .ok (.invokevirtual 121, 3) := by decide +kernel
theorem dK_same_77 : decode cK_same 77 = .ok (.aload_n 0, 1) := by decide +kernel
theorem dK_same_78 : decode cK_same 78 = .ok (.iload_n 3, 1) := by decide +kernel
theorem dK_same_79 : decode cK_same 79 = .ok (.invokevirtual 124, 3) := by decide +kernel
theorem dK_same_82 : decode cK_same 82 = .ok (.ireturn, 1) := by decide +kernel
theorem dK_givesSame_0 : decode cK_givesSame 0 = .ok (.iconst 0, 1) := by decide +kernel
theorem dK_givesSame_1 : decode cK_givesSame 1 = .ok (.istore_n 2, 1) := by decide +kernel
theorem dK_givesSame_2 : decode cK_givesSame 2 = .ok (.iload_n 2, 1) := by decide +kernel
theorem dK_givesSame_3 : decode cK_givesSame 3 = .ok (.iload_n 1, 1) := by decide +kernel
theorem dK_givesSame_4 : decode cK_givesSame 4 = .ok (.if_icmp .ge 29, 3) := by decide +kernel
theorem dK_givesSame_7 : decode cK_givesSame 7 = .ok (.aload_n 0, 1) := by decide +kernel
theorem dK_givesSame_8 : decode cK_givesSame 8 = .ok (.getfield 32, 3) := by decide +kernel
theorem dK_givesSame_11 : decode cK_givesSame 11 = .ok (.invokevirtual 127, 3) := by decide +kernel
theorem dK_givesSame_14 : decode cK_givesSame 14 = .ok (.aload_n 0, 1) := by decide +kernel
theorem dK_givesSame_15 : decode cK_givesSame 15 = .ok (.getfield 36, 3) := by decide +kernel
theorem dK_givesSame_18 : decode cK_givesSame 18 = .ok (.invokevirtual 127, 3) := by decide +kernel
theorem dK_givesSame_21 : decode cK_givesSame 21 = .ok (.lcmp, 1) := by decide +kernel
theorem dK_givesSame_22 : decode cK_givesSame 22 = .ok (.ifCond .eq 5, 3) := by decide +kernel
theorem dK_givesSame_25 : decode cK_givesSame 25 = .ok (.iconst 0, 1) := by decide +kernel
theorem dK_givesSame_26 : decode cK_givesSame 26 = .ok (.ireturn, 1) := by decide +kernel
theorem dK_givesSame_27 : decode cK_givesSame 27 = .ok (.iinc 2 1, 3) := by decide +kernel
theorem dK_givesSame_30 : decode cK_givesSame 30 = .ok (.goto (-28), 3) := by decide +kernel
theorem dK_givesSame_33 : decode cK_givesSame 33 = .ok (.iconst 1, 1) := by decide +kernel
theorem dK_givesSame_34 : decode cK_givesSame 34 = .ok (.ireturn, 1) := by decide +kernel
theorem dK_spongeAt_0 : decode cK_spongeAt 0 = .ok (.iload_n 1, 1) := by decide +kernel
theorem dK_spongeAt_1 : decode cK_spongeAt 1 = .ok (.ifCond .lt 8, 3) := by decide +kernel
theorem dK_spongeAt_4 : decode cK_spongeAt 4 = .ok (.iload_n 1, 1) := by decide +kernel
theorem dK_spongeAt_5 : decode cK_spongeAt 5 = .ok (.iconst 4, 1) := by decide +kernel
theorem dK_spongeAt_6 : decode cK_spongeAt 6 = .ok (.if_icmp .lt 13, 3) := by decide +kernel
theorem dK_spongeAt_9 : decode cK_spongeAt 9 = .ok (.new 131, 3) := by decide +kernel
theorem dK_spongeAt_12 : decode cK_spongeAt 12 = .ok (.dup, 1) := by decide +kernel
theorem dK_spongeAt_13 : decode cK_spongeAt 13 = .ok (.ldc 133, 2) := by decide +kernel
theorem dK_spongeAt_15 : decode cK_spongeAt 15 = .ok (.invokespecial 135, 3) := by decide +kernel
theorem dK_spongeAt_18 : decode cK_spongeAt 18 = .ok (.athrow, 1) := by decide +kernel
theorem dK_spongeAt_19 : decode cK_spongeAt 19 = .ok (.aload_n 0, 1) := by decide +kernel
theorem dK_spongeAt_20 : decode cK_spongeAt 20 = .ok (.getfield 27, 3) := by decide +kernel
theorem dK_spongeAt_23 : decode cK_spongeAt 23 = .ok (.iload_n 1, 1) := by decide +kernel
theorem dK_spongeAt_24 : decode cK_spongeAt 24 = .ok (.aaload, 1) := by decide +kernel
theorem dK_spongeAt_25 : decode cK_spongeAt 25 = .ok (.areturn, 1) := by decide +kernel
theorem dK_refuseUnless_0 : decode cK_refuseUnless 0 = .ok (.iload_n 0, 1) := by decide +kernel
theorem dK_refuseUnless_1 : decode cK_refuseUnless 1 = .ok (.ifCond .ne 13, 3) := by decide +kernel
theorem dK_refuseUnless_4 : decode cK_refuseUnless 4 = .ok (.new 138, 3) := by decide +kernel
theorem dK_refuseUnless_7 : decode cK_refuseUnless 7 = .ok (.dup, 1) := by decide +kernel
theorem dK_refuseUnless_8 : decode cK_refuseUnless 8 = .ok (.ldc 140, 2) := by decide +kernel
theorem dK_refuseUnless_10 : decode cK_refuseUnless 10 = .ok (.invokespecial 142, 3) := by decide +kernel
theorem dK_refuseUnless_13 : decode cK_refuseUnless 13 = .ok (.athrow, 1) := by decide +kernel
theorem dK_refuseUnless_14 : decode cK_refuseUnless 14 = .ok (.return_, 1) := by decide +kernel
theorem dK_refuseStateUnless_0 : decode cK_refuseStateUnless 0 = .ok (.iload_n 0, 1) := by decide +kernel
theorem dK_refuseStateUnless_1 : decode cK_refuseStateUnless 1 = .ok (.ifCond .ne 13, 3) := by decide +kernel
theorem dK_refuseStateUnless_4 : decode cK_refuseStateUnless 4 = .ok (.new 143, 3) := by decide +kernel
theorem dK_refuseStateUnless_7 : decode cK_refuseStateUnless 7 = .ok (.dup, 1) := by decide +kernel
theorem dK_refuseStateUnless_8 : decode cK_refuseStateUnless 8 = .ok (.ldc 145, 2) := by decide +kernel
theorem dK_refuseStateUnless_10 : decode cK_refuseStateUnless 10 = .ok (.invokespecial 147, 3) := by decide +kernel
theorem dK_refuseStateUnless_13 : decode cK_refuseStateUnless 13 = .ok (.athrow, 1) := by decide +kernel
theorem dK_refuseStateUnless_14 : decode cK_refuseStateUnless 14 = .ok (.return_, 1) := by decide +kernel
theorem dK_isByteCount_0 : decode cK_isByteCount 0 = .ok (.iload_n 0, 1) := by decide +kernel
theorem dK_isByteCount_1 : decode cK_isByteCount 1 = .ok (.iconst 1, 1) := by decide +kernel
theorem dK_isByteCount_2 : decode cK_isByteCount 2 = .ok (.if_icmp .lt 13, 3) := by decide +kernel
theorem dK_isByteCount_5 : decode cK_isByteCount 5 = .ok (.iload_n 0, 1) := by decide +kernel
theorem dK_isByteCount_6 : decode cK_isByteCount 6 = .ok (.bipush 8, 2) := by decide +kernel
theorem dK_isByteCount_8 : decode cK_isByteCount 8 = .ok (.if_icmp .gt 7, 3) := by decide +kernel
theorem dK_isByteCount_11 : decode cK_isByteCount 11 = .ok (.iconst 1, 1) := by decide +kernel
theorem dK_isByteCount_12 : decode cK_isByteCount 12 = .ok (.goto 4, 3) := by decide +kernel
theorem dK_isByteCount_15 : decode cK_isByteCount 15 = .ok (.iconst 0, 1) := by decide +kernel
theorem dK_isByteCount_16 : decode cK_isByteCount 16 = .ok (.ireturn, 1) := by decide +kernel
theorem dK_isLengthOf_0 : decode cK_isLengthOf 0 = .ok (.getstatic 148, 3) := by decide +kernel
theorem dK_isLengthOf_3 : decode cK_isLengthOf 3 = .ok (.iload_n 0, 1) := by decide +kernel
theorem dK_isLengthOf_4 : decode cK_isLengthOf 4 = .ok (.iaload, 1) := by decide +kernel
theorem dK_isLengthOf_5 : decode cK_isLengthOf 5 = .ok (.istore_n 2, 1) := by decide +kernel
theorem dK_isLengthOf_6 : decode cK_isLengthOf 6 = .ok (.iload_n 2, 1) := by decide +kernel
theorem dK_isLengthOf_7 : decode cK_isLengthOf 7 = .ok (.iconst (-1), 1) := by decide +kernel
theorem dK_isLengthOf_8 : decode cK_isLengthOf 8 = .ok (.if_icmp .ne 23, 3) := by decide +kernel
theorem dK_isLengthOf_11 : decode cK_isLengthOf 11 = .ok (.iload_n 1, 1) := by decide +kernel
theorem dK_isLengthOf_12 : decode cK_isLengthOf 12 = .ok (.iconst 1, 1) := by decide +kernel
theorem dK_isLengthOf_13 : decode cK_isLengthOf 13 = .ok (.if_icmp .lt 14, 3) := by decide +kernel
theorem dK_isLengthOf_16 : decode cK_isLengthOf 16 = .ok (.iload_n 1, 1) := by decide +kernel
theorem dK_isLengthOf_17 : decode cK_isLengthOf 17 = .ok (.sipush 1000, 3) := by decide +kernel
theorem dK_isLengthOf_20 : decode cK_isLengthOf 20 = .ok (.if_icmp .gt 7, 3) := by decide +kernel
theorem dK_isLengthOf_23 : decode cK_isLengthOf 23 = .ok (.iconst 1, 1) := by decide +kernel
theorem dK_isLengthOf_24 : decode cK_isLengthOf 24 = .ok (.goto 17, 3) := by decide +kernel
theorem dK_isLengthOf_27 : decode cK_isLengthOf 27 = .ok (.iconst 0, 1) := by decide +kernel
theorem dK_isLengthOf_28 : decode cK_isLengthOf 28 = .ok (.goto 13, 3) := by decide +kernel
theorem dK_isLengthOf_31 : decode cK_isLengthOf 31 = .ok (.iload_n 1, 1) := by decide +kernel
theorem dK_isLengthOf_32 : decode cK_isLengthOf 32 = .ok (.iload_n 2, 1) := by decide +kernel
theorem dK_isLengthOf_33 : decode cK_isLengthOf 33 = .ok (.if_icmp .ne 7, 3) := by decide +kernel
theorem dK_isLengthOf_36 : decode cK_isLengthOf 36 = .ok (.iconst 1, 1) := by decide +kernel
theorem dK_isLengthOf_37 : decode cK_isLengthOf 37 = .ok (.goto 4, 3) := by decide +kernel
theorem dK_isLengthOf_40 : decode cK_isLengthOf 40 = .ok (.iconst 0, 1) := by decide +kernel
theorem dK_isLengthOf_41 : decode cK_isLengthOf 41 = .ok (.ireturn, 1) := by decide +kernel
theorem dP_mixColumns_0 : decode cP_mixColumns 0 = .ok (.aload_n 0, 1) := by decide +kernel
theorem dP_mixColumns_1 : decode cP_mixColumns 1 = .ok (.iconst 0, 1) := by decide +kernel
theorem dP_mixColumns_2 : decode cP_mixColumns 2 = .ok (.laload, 1) := by decide +kernel
theorem dP_mixColumns_3 : decode cP_mixColumns 3 = .ok (.aload_n 0, 1) := by decide +kernel
theorem dP_mixColumns_4 : decode cP_mixColumns 4 = .ok (.iconst 5, 1) := by decide +kernel
theorem dP_mixColumns_5 : decode cP_mixColumns 5 = .ok (.laload, 1) := by decide +kernel
theorem dP_mixColumns_6 : decode cP_mixColumns 6 = .ok (.lxor, 1) := by decide +kernel
theorem dP_mixColumns_7 : decode cP_mixColumns 7 = .ok (.aload_n 0, 1) := by decide +kernel
theorem dP_mixColumns_8 : decode cP_mixColumns 8 = .ok (.bipush 10, 2) := by decide +kernel
theorem dP_mixColumns_10 : decode cP_mixColumns 10 = .ok (.laload, 1) := by decide +kernel
theorem dP_mixColumns_11 : decode cP_mixColumns 11 = .ok (.lxor, 1) := by decide +kernel
theorem dP_mixColumns_12 : decode cP_mixColumns 12 = .ok (.aload_n 0, 1) := by decide +kernel
theorem dP_mixColumns_13 : decode cP_mixColumns 13 = .ok (.bipush 15, 2) := by decide +kernel
theorem dP_mixColumns_15 : decode cP_mixColumns 15 = .ok (.laload, 1) := by decide +kernel
theorem dP_mixColumns_16 : decode cP_mixColumns 16 = .ok (.lxor, 1) := by decide +kernel
theorem dP_mixColumns_17 : decode cP_mixColumns 17 = .ok (.aload_n 0, 1) := by decide +kernel
theorem dP_mixColumns_18 : decode cP_mixColumns 18 = .ok (.bipush 20, 2) := by decide +kernel
theorem dP_mixColumns_20 : decode cP_mixColumns 20 = .ok (.laload, 1) := by decide +kernel
theorem dP_mixColumns_21 : decode cP_mixColumns 21 = .ok (.lxor, 1) := by decide +kernel
theorem dP_mixColumns_22 : decode cP_mixColumns 22 = .ok (.lstore_n 1, 1) := by decide +kernel
theorem dP_mixColumns_23 : decode cP_mixColumns 23 = .ok (.aload_n 0, 1) := by decide +kernel
theorem dP_mixColumns_24 : decode cP_mixColumns 24 = .ok (.iconst 1, 1) := by decide +kernel
theorem dP_mixColumns_25 : decode cP_mixColumns 25 = .ok (.laload, 1) := by decide +kernel
theorem dP_mixColumns_26 : decode cP_mixColumns 26 = .ok (.aload_n 0, 1) := by decide +kernel
theorem dP_mixColumns_27 : decode cP_mixColumns 27 = .ok (.bipush 6, 2) := by decide +kernel
theorem dP_mixColumns_29 : decode cP_mixColumns 29 = .ok (.laload, 1) := by decide +kernel
theorem dP_mixColumns_30 : decode cP_mixColumns 30 = .ok (.lxor, 1) := by decide +kernel
theorem dP_mixColumns_31 : decode cP_mixColumns 31 = .ok (.aload_n 0, 1) := by decide +kernel
theorem dP_mixColumns_32 : decode cP_mixColumns 32 = .ok (.bipush 11, 2) := by decide +kernel
theorem dP_mixColumns_34 : decode cP_mixColumns 34 = .ok (.laload, 1) := by decide +kernel
theorem dP_mixColumns_35 : decode cP_mixColumns 35 = .ok (.lxor, 1) := by decide +kernel
theorem dP_mixColumns_36 : decode cP_mixColumns 36 = .ok (.aload_n 0, 1) := by decide +kernel
theorem dP_mixColumns_37 : decode cP_mixColumns 37 = .ok (.bipush 16, 2) := by decide +kernel
theorem dP_mixColumns_39 : decode cP_mixColumns 39 = .ok (.laload, 1) := by decide +kernel
theorem dP_mixColumns_40 : decode cP_mixColumns 40 = .ok (.lxor, 1) := by decide +kernel
theorem dP_mixColumns_41 : decode cP_mixColumns 41 = .ok (.aload_n 0, 1) := by decide +kernel
theorem dP_mixColumns_42 : decode cP_mixColumns 42 = .ok (.bipush 21, 2) := by decide +kernel
theorem dP_mixColumns_44 : decode cP_mixColumns 44 = .ok (.laload, 1) := by decide +kernel
theorem dP_mixColumns_45 : decode cP_mixColumns 45 = .ok (.lxor, 1) := by decide +kernel
theorem dP_mixColumns_46 : decode cP_mixColumns 46 = .ok (.lstore_n 3, 1) := by decide +kernel
theorem dP_mixColumns_47 : decode cP_mixColumns 47 = .ok (.aload_n 0, 1) := by decide +kernel
theorem dP_mixColumns_48 : decode cP_mixColumns 48 = .ok (.iconst 2, 1) := by decide +kernel
theorem dP_mixColumns_49 : decode cP_mixColumns 49 = .ok (.laload, 1) := by decide +kernel
theorem dP_mixColumns_50 : decode cP_mixColumns 50 = .ok (.aload_n 0, 1) := by decide +kernel
theorem dP_mixColumns_51 : decode cP_mixColumns 51 = .ok (.bipush 7, 2) := by decide +kernel
theorem dP_mixColumns_53 : decode cP_mixColumns 53 = .ok (.laload, 1) := by decide +kernel
theorem dP_mixColumns_54 : decode cP_mixColumns 54 = .ok (.lxor, 1) := by decide +kernel
theorem dP_mixColumns_55 : decode cP_mixColumns 55 = .ok (.aload_n 0, 1) := by decide +kernel
theorem dP_mixColumns_56 : decode cP_mixColumns 56 = .ok (.bipush 12, 2) := by decide +kernel
theorem dP_mixColumns_58 : decode cP_mixColumns 58 = .ok (.laload, 1) := by decide +kernel
theorem dP_mixColumns_59 : decode cP_mixColumns 59 = .ok (.lxor, 1) := by decide +kernel
theorem dP_mixColumns_60 : decode cP_mixColumns 60 = .ok (.aload_n 0, 1) := by decide +kernel
theorem dP_mixColumns_61 : decode cP_mixColumns 61 = .ok (.bipush 17, 2) := by decide +kernel
theorem dP_mixColumns_63 : decode cP_mixColumns 63 = .ok (.laload, 1) := by decide +kernel
theorem dP_mixColumns_64 : decode cP_mixColumns 64 = .ok (.lxor, 1) := by decide +kernel
theorem dP_mixColumns_65 : decode cP_mixColumns 65 = .ok (.aload_n 0, 1) := by decide +kernel
theorem dP_mixColumns_66 : decode cP_mixColumns 66 = .ok (.bipush 22, 2) := by decide +kernel
theorem dP_mixColumns_68 : decode cP_mixColumns 68 = .ok (.laload, 1) := by decide +kernel
theorem dP_mixColumns_69 : decode cP_mixColumns 69 = .ok (.lxor, 1) := by decide +kernel
theorem dP_mixColumns_70 : decode cP_mixColumns 70 = .ok (.lstore 5, 2) := by decide +kernel
theorem dP_mixColumns_72 : decode cP_mixColumns 72 = .ok (.aload_n 0, 1) := by decide +kernel
theorem dP_mixColumns_73 : decode cP_mixColumns 73 = .ok (.iconst 3, 1) := by decide +kernel
theorem dP_mixColumns_74 : decode cP_mixColumns 74 = .ok (.laload, 1) := by decide +kernel
theorem dP_mixColumns_75 : decode cP_mixColumns 75 = .ok (.aload_n 0, 1) := by decide +kernel
theorem dP_mixColumns_76 : decode cP_mixColumns 76 = .ok (.bipush 8, 2) := by decide +kernel
theorem dP_mixColumns_78 : decode cP_mixColumns 78 = .ok (.laload, 1) := by decide +kernel
theorem dP_mixColumns_79 : decode cP_mixColumns 79 = .ok (.lxor, 1) := by decide +kernel
theorem dP_mixColumns_80 : decode cP_mixColumns 80 = .ok (.aload_n 0, 1) := by decide +kernel
theorem dP_mixColumns_81 : decode cP_mixColumns 81 = .ok (.bipush 13, 2) := by decide +kernel
theorem dP_mixColumns_83 : decode cP_mixColumns 83 = .ok (.laload, 1) := by decide +kernel
theorem dP_mixColumns_84 : decode cP_mixColumns 84 = .ok (.lxor, 1) := by decide +kernel
theorem dP_mixColumns_85 : decode cP_mixColumns 85 = .ok (.aload_n 0, 1) := by decide +kernel
theorem dP_mixColumns_86 : decode cP_mixColumns 86 = .ok (.bipush 18, 2) := by decide +kernel
theorem dP_mixColumns_88 : decode cP_mixColumns 88 = .ok (.laload, 1) := by decide +kernel
theorem dP_mixColumns_89 : decode cP_mixColumns 89 = .ok (.lxor, 1) := by decide +kernel
theorem dP_mixColumns_90 : decode cP_mixColumns 90 = .ok (.aload_n 0, 1) := by decide +kernel
theorem dP_mixColumns_91 : decode cP_mixColumns 91 = .ok (.bipush 23, 2) := by decide +kernel
theorem dP_mixColumns_93 : decode cP_mixColumns 93 = .ok (.laload, 1) := by decide +kernel
theorem dP_mixColumns_94 : decode cP_mixColumns 94 = .ok (.lxor, 1) := by decide +kernel
theorem dP_mixColumns_95 : decode cP_mixColumns 95 = .ok (.lstore 7, 2) := by decide +kernel
theorem dP_mixColumns_97 : decode cP_mixColumns 97 = .ok (.aload_n 0, 1) := by decide +kernel
theorem dP_mixColumns_98 : decode cP_mixColumns 98 = .ok (.iconst 4, 1) := by decide +kernel
theorem dP_mixColumns_99 : decode cP_mixColumns 99 = .ok (.laload, 1) := by decide +kernel
theorem dP_mixColumns_100 : decode cP_mixColumns 100 = .ok (.aload_n 0, 1) := by decide +kernel
theorem dP_mixColumns_101 : decode cP_mixColumns 101 = .ok (.bipush 9, 2) := by decide +kernel
theorem dP_mixColumns_103 : decode cP_mixColumns 103 = .ok (.laload, 1) := by decide +kernel
theorem dP_mixColumns_104 : decode cP_mixColumns 104 = .ok (.lxor, 1) := by decide +kernel
theorem dP_mixColumns_105 : decode cP_mixColumns 105 = .ok (.aload_n 0, 1) := by decide +kernel
theorem dP_mixColumns_106 : decode cP_mixColumns 106 = .ok (.bipush 14, 2) := by decide +kernel
theorem dP_mixColumns_108 : decode cP_mixColumns 108 = .ok (.laload, 1) := by decide +kernel
theorem dP_mixColumns_109 : decode cP_mixColumns 109 = .ok (.lxor, 1) := by decide +kernel
theorem dP_mixColumns_110 : decode cP_mixColumns 110 = .ok (.aload_n 0, 1) := by decide +kernel
theorem dP_mixColumns_111 : decode cP_mixColumns 111 = .ok (.bipush 19, 2) := by decide +kernel
theorem dP_mixColumns_113 : decode cP_mixColumns 113 = .ok (.laload, 1) := by decide +kernel
theorem dP_mixColumns_114 : decode cP_mixColumns 114 = .ok (.lxor, 1) := by decide +kernel
theorem dP_mixColumns_115 : decode cP_mixColumns 115 = .ok (.aload_n 0, 1) := by decide +kernel
theorem dP_mixColumns_116 : decode cP_mixColumns 116 = .ok (.bipush 24, 2) := by decide +kernel
theorem dP_mixColumns_118 : decode cP_mixColumns 118 = .ok (.laload, 1) := by decide +kernel
theorem dP_mixColumns_119 : decode cP_mixColumns 119 = .ok (.lxor, 1) := by decide +kernel
theorem dP_mixColumns_120 : decode cP_mixColumns 120 = .ok (.lstore 9, 2) := by decide +kernel
theorem dP_mixColumns_122 : decode cP_mixColumns 122 = .ok (.lload 9, 2) := by decide +kernel
theorem dP_mixColumns_124 : decode cP_mixColumns 124 = .ok (.lload_n 3, 1) := by decide +kernel
theorem dP_mixColumns_125 : decode cP_mixColumns 125 = .ok (.iconst 1, 1) := by decide +kernel
theorem dP_mixColumns_126 : decode cP_mixColumns 126 = .ok (.lshl, 1) := by decide +kernel
theorem dP_mixColumns_127 : decode cP_mixColumns 127 = .ok (.lload_n 3, 1) := by decide +kernel
theorem dP_mixColumns_128 : decode cP_mixColumns 128 = .ok (.bipush 63, 2) := by decide +kernel
theorem dP_mixColumns_130 : decode cP_mixColumns 130 = .ok (.lushr, 1) := by decide +kernel
theorem dP_mixColumns_131 : decode cP_mixColumns 131 = .ok (.lor, 1) := by decide +kernel
theorem dP_mixColumns_132 : decode cP_mixColumns 132 = .ok (.lxor, 1) := by decide +kernel
theorem dP_mixColumns_133 : decode cP_mixColumns 133 = .ok (.lstore 11, 2) := by decide +kernel
theorem dP_mixColumns_135 : decode cP_mixColumns 135 = .ok (.lload_n 1, 1) := by decide +kernel
theorem dP_mixColumns_136 : decode cP_mixColumns 136 = .ok (.lload 5, 2) := by decide +kernel
theorem dP_mixColumns_138 : decode cP_mixColumns 138 = .ok (.iconst 1, 1) := by decide +kernel
theorem dP_mixColumns_139 : decode cP_mixColumns 139 = .ok (.lshl, 1) := by decide +kernel
theorem dP_mixColumns_140 : decode cP_mixColumns 140 = .ok (.lload 5, 2) := by decide +kernel
theorem dP_mixColumns_142 : decode cP_mixColumns 142 = .ok (.bipush 63, 2) := by decide +kernel
theorem dP_mixColumns_144 : decode cP_mixColumns 144 = .ok (.lushr, 1) := by decide +kernel
theorem dP_mixColumns_145 : decode cP_mixColumns 145 = .ok (.lor, 1) := by decide +kernel
theorem dP_mixColumns_146 : decode cP_mixColumns 146 = .ok (.lxor, 1) := by decide +kernel
theorem dP_mixColumns_147 : decode cP_mixColumns 147 = .ok (.lstore 13, 2) := by decide +kernel
theorem dP_mixColumns_149 : decode cP_mixColumns 149 = .ok (.lload_n 3, 1) := by decide +kernel
theorem dP_mixColumns_150 : decode cP_mixColumns 150 = .ok (.lload 7, 2) := by decide +kernel
theorem dP_mixColumns_152 : decode cP_mixColumns 152 = .ok (.iconst 1, 1) := by decide +kernel
theorem dP_mixColumns_153 : decode cP_mixColumns 153 = .ok (.lshl, 1) := by decide +kernel
theorem dP_mixColumns_154 : decode cP_mixColumns 154 = .ok (.lload 7, 2) := by decide +kernel
theorem dP_mixColumns_156 : decode cP_mixColumns 156 = .ok (.bipush 63, 2) := by decide +kernel
theorem dP_mixColumns_158 : decode cP_mixColumns 158 = .ok (.lushr, 1) := by decide +kernel
theorem dP_mixColumns_159 : decode cP_mixColumns 159 = .ok (.lor, 1) := by decide +kernel
theorem dP_mixColumns_160 : decode cP_mixColumns 160 = .ok (.lxor, 1) := by decide +kernel
theorem dP_mixColumns_161 : decode cP_mixColumns 161 = .ok (.lstore 15, 2) := by decide +kernel
theorem dP_mixColumns_163 : decode cP_mixColumns 163 = .ok (.lload 5, 2) := by decide +kernel
theorem dP_mixColumns_165 : decode cP_mixColumns 165 = .ok (.lload 9, 2) := by decide +kernel
theorem dP_mixColumns_167 : decode cP_mixColumns 167 = .ok (.iconst 1, 1) := by decide +kernel
theorem dP_mixColumns_168 : decode cP_mixColumns 168 = .ok (.lshl, 1) := by decide +kernel
theorem dP_mixColumns_169 : decode cP_mixColumns 169 = .ok (.lload 9, 2) := by decide +kernel
theorem dP_mixColumns_171 : decode cP_mixColumns 171 = .ok (.bipush 63, 2) := by decide +kernel
theorem dP_mixColumns_173 : decode cP_mixColumns 173 = .ok (.lushr, 1) := by decide +kernel
theorem dP_mixColumns_174 : decode cP_mixColumns 174 = .ok (.lor, 1) := by decide +kernel
theorem dP_mixColumns_175 : decode cP_mixColumns 175 = .ok (.lxor, 1) := by decide +kernel
theorem dP_mixColumns_176 : decode cP_mixColumns 176 = .ok (.lstore 17, 2) := by decide +kernel
theorem dP_mixColumns_178 : decode cP_mixColumns 178 = .ok (.lload 7, 2) := by decide +kernel
theorem dP_mixColumns_180 : decode cP_mixColumns 180 = .ok (.lload_n 1, 1) := by decide +kernel
theorem dP_mixColumns_181 : decode cP_mixColumns 181 = .ok (.iconst 1, 1) := by decide +kernel
theorem dP_mixColumns_182 : decode cP_mixColumns 182 = .ok (.lshl, 1) := by decide +kernel
theorem dP_mixColumns_183 : decode cP_mixColumns 183 = .ok (.lload_n 1, 1) := by decide +kernel
theorem dP_mixColumns_184 : decode cP_mixColumns 184 = .ok (.bipush 63, 2) := by decide +kernel
theorem dP_mixColumns_186 : decode cP_mixColumns 186 = .ok (.lushr, 1) := by decide +kernel
theorem dP_mixColumns_187 : decode cP_mixColumns 187 = .ok (.lor, 1) := by decide +kernel
theorem dP_mixColumns_188 : decode cP_mixColumns 188 = .ok (.lxor, 1) := by decide +kernel
theorem dP_mixColumns_189 : decode cP_mixColumns 189 = .ok (.lstore 19, 2) := by decide +kernel
theorem dP_mixColumns_191 : decode cP_mixColumns 191 = .ok (.iconst 0, 1) := by decide +kernel
theorem dP_mixColumns_192 : decode cP_mixColumns 192 = .ok (.istore 21, 2) := by decide +kernel
theorem dP_mixColumns_194 : decode cP_mixColumns 194 = .ok (.iload 21, 2) := by decide +kernel
theorem dP_mixColumns_196 : decode cP_mixColumns 196 = .ok (.bipush 25, 2) := by decide +kernel
theorem dP_mixColumns_198 : decode cP_mixColumns 198 = .ok (.if_icmp .ge 62, 3) := by decide +kernel
theorem dP_mixColumns_201 : decode cP_mixColumns 201 = .ok (.aload_n 0, 1) := by decide +kernel
theorem dP_mixColumns_202 : decode cP_mixColumns 202 = .ok (.iload 21, 2) := by decide +kernel
theorem dP_mixColumns_204 : decode cP_mixColumns 204 = .ok (.dup2, 1) := by decide +kernel
theorem dP_mixColumns_205 : decode cP_mixColumns 205 = .ok (.laload, 1) := by decide +kernel
theorem dP_mixColumns_206 : decode cP_mixColumns 206 = .ok (.lload 11, 2) := by decide +kernel
theorem dP_mixColumns_208 : decode cP_mixColumns 208 = .ok (.lxor, 1) := by decide +kernel
theorem dP_mixColumns_209 : decode cP_mixColumns 209 = .ok (.lastore, 1) := by decide +kernel
theorem dP_mixColumns_210 : decode cP_mixColumns 210 = .ok (.aload_n 0, 1) := by decide +kernel
theorem dP_mixColumns_211 : decode cP_mixColumns 211 = .ok (.iload 21, 2) := by decide +kernel
theorem dP_mixColumns_213 : decode cP_mixColumns 213 = .ok (.iconst 1, 1) := by decide +kernel
theorem dP_mixColumns_214 : decode cP_mixColumns 214 = .ok (.iadd, 1) := by decide +kernel
theorem dP_mixColumns_215 : decode cP_mixColumns 215 = .ok (.dup2, 1) := by decide +kernel
theorem dP_mixColumns_216 : decode cP_mixColumns 216 = .ok (.laload, 1) := by decide +kernel
theorem dP_mixColumns_217 : decode cP_mixColumns 217 = .ok (.lload 13, 2) := by decide +kernel
theorem dP_mixColumns_219 : decode cP_mixColumns 219 = .ok (.lxor, 1) := by decide +kernel
theorem dP_mixColumns_220 : decode cP_mixColumns 220 = .ok (.lastore, 1) := by decide +kernel
theorem dP_mixColumns_221 : decode cP_mixColumns 221 = .ok (.aload_n 0, 1) := by decide +kernel
theorem dP_mixColumns_222 : decode cP_mixColumns 222 = .ok (.iload 21, 2) := by decide +kernel
theorem dP_mixColumns_224 : decode cP_mixColumns 224 = .ok (.iconst 2, 1) := by decide +kernel
theorem dP_mixColumns_225 : decode cP_mixColumns 225 = .ok (.iadd, 1) := by decide +kernel
theorem dP_mixColumns_226 : decode cP_mixColumns 226 = .ok (.dup2, 1) := by decide +kernel
theorem dP_mixColumns_227 : decode cP_mixColumns 227 = .ok (.laload, 1) := by decide +kernel
theorem dP_mixColumns_228 : decode cP_mixColumns 228 = .ok (.lload 15, 2) := by decide +kernel
theorem dP_mixColumns_230 : decode cP_mixColumns 230 = .ok (.lxor, 1) := by decide +kernel
theorem dP_mixColumns_231 : decode cP_mixColumns 231 = .ok (.lastore, 1) := by decide +kernel
theorem dP_mixColumns_232 : decode cP_mixColumns 232 = .ok (.aload_n 0, 1) := by decide +kernel
theorem dP_mixColumns_233 : decode cP_mixColumns 233 = .ok (.iload 21, 2) := by decide +kernel
theorem dP_mixColumns_235 : decode cP_mixColumns 235 = .ok (.iconst 3, 1) := by decide +kernel
theorem dP_mixColumns_236 : decode cP_mixColumns 236 = .ok (.iadd, 1) := by decide +kernel
theorem dP_mixColumns_237 : decode cP_mixColumns 237 = .ok (.dup2, 1) := by decide +kernel
theorem dP_mixColumns_238 : decode cP_mixColumns 238 = .ok (.laload, 1) := by decide +kernel
theorem dP_mixColumns_239 : decode cP_mixColumns 239 = .ok (.lload 17, 2) := by decide +kernel
theorem dP_mixColumns_241 : decode cP_mixColumns 241 = .ok (.lxor, 1) := by decide +kernel
theorem dP_mixColumns_242 : decode cP_mixColumns 242 = .ok (.lastore, 1) := by decide +kernel
theorem dP_mixColumns_243 : decode cP_mixColumns 243 = .ok (.aload_n 0, 1) := by decide +kernel
theorem dP_mixColumns_244 : decode cP_mixColumns 244 = .ok (.iload 21, 2) := by decide +kernel
theorem dP_mixColumns_246 : decode cP_mixColumns 246 = .ok (.iconst 4, 1) := by decide +kernel
theorem dP_mixColumns_247 : decode cP_mixColumns 247 = .ok (.iadd, 1) := by decide +kernel
theorem dP_mixColumns_248 : decode cP_mixColumns 248 = .ok (.dup2, 1) := by decide +kernel
theorem dP_mixColumns_249 : decode cP_mixColumns 249 = .ok (.laload, 1) := by decide +kernel
theorem dP_mixColumns_250 : decode cP_mixColumns 250 = .ok (.lload 19, 2) := by decide +kernel
theorem dP_mixColumns_252 : decode cP_mixColumns 252 = .ok (.lxor, 1) := by decide +kernel
theorem dP_mixColumns_253 : decode cP_mixColumns 253 = .ok (.lastore, 1) := by decide +kernel
theorem dP_mixColumns_254 : decode cP_mixColumns 254 = .ok (.iinc 21 5, 3) := by decide +kernel
theorem dP_mixColumns_257 : decode cP_mixColumns 257 = .ok (.goto (-63), 3) := by decide +kernel
theorem dP_mixColumns_260 : decode cP_mixColumns 260 = .ok (.return_, 1) := by decide +kernel
theorem dP_moveLanes_0 : decode cP_moveLanes 0 = .ok (.aload_n 0, 1) := by decide +kernel
theorem dP_moveLanes_1 : decode cP_moveLanes 1 = .ok (.iconst 1, 1) := by decide +kernel
theorem dP_moveLanes_2 : decode cP_moveLanes 2 = .ok (.laload, 1) := by decide +kernel
theorem dP_moveLanes_3 : decode cP_moveLanes 3 = .ok (.lstore_n 1, 1) := by decide +kernel
theorem dP_moveLanes_4 : decode cP_moveLanes 4 = .ok (.iconst 0, 1) := by decide +kernel
theorem dP_moveLanes_5 : decode cP_moveLanes 5 = .ok (.istore_n 3, 1) := by decide +kernel
theorem dP_moveLanes_6 : decode cP_moveLanes 6 = .ok (.iload_n 3, 1) := by decide +kernel
theorem dP_moveLanes_7 : decode cP_moveLanes 7 = .ok (.getstatic 9, 3) := by decide +kernel
theorem dP_moveLanes_10 : decode cP_moveLanes 10 = .ok (.arraylength, 1) := by decide +kernel
theorem dP_moveLanes_11 : decode cP_moveLanes 11 = .ok (.if_icmp .ge 48, 3) := by decide +kernel
theorem dP_moveLanes_14 : decode cP_moveLanes 14 = .ok (.getstatic 9, 3) := by decide +kernel
theorem dP_moveLanes_17 : decode cP_moveLanes 17 = .ok (.iload_n 3, 1) := by decide +kernel
theorem dP_moveLanes_18 : decode cP_moveLanes 18 = .ok (.iaload, 1) := by decide +kernel
theorem dP_moveLanes_19 : decode cP_moveLanes 19 = .ok (.istore 4, 2) := by decide +kernel
theorem dP_moveLanes_21 : decode cP_moveLanes 21 = .ok (.getstatic 13, 3) := by decide +kernel
theorem dP_moveLanes_24 : decode cP_moveLanes 24 = .ok (.iload_n 3, 1) := by decide +kernel
theorem dP_moveLanes_25 : decode cP_moveLanes 25 = .ok (.iaload, 1) := by decide +kernel
theorem dP_moveLanes_26 : decode cP_moveLanes 26 = .ok (.istore 5, 2) := by decide +kernel
theorem dP_moveLanes_28 : decode cP_moveLanes 28 = .ok (.aload_n 0, 1) := by decide +kernel
theorem dP_moveLanes_29 : decode cP_moveLanes 29 = .ok (.iload 4, 2) := by decide +kernel
theorem dP_moveLanes_31 : decode cP_moveLanes 31 = .ok (.laload, 1) := by decide +kernel
theorem dP_moveLanes_32 : decode cP_moveLanes 32 = .ok (.lstore 6, 2) := by decide +kernel
theorem dP_moveLanes_34 : decode cP_moveLanes 34 = .ok (.aload_n 0, 1) := by decide +kernel
theorem dP_moveLanes_35 : decode cP_moveLanes 35 = .ok (.iload 4, 2) := by decide +kernel
theorem dP_moveLanes_37 : decode cP_moveLanes 37 = .ok (.lload_n 1, 1) := by decide +kernel
theorem dP_moveLanes_38 : decode cP_moveLanes 38 = .ok (.iload 5, 2) := by decide +kernel
theorem dP_moveLanes_40 : decode cP_moveLanes 40 = .ok (.lshl, 1) := by decide +kernel
theorem dP_moveLanes_41 : decode cP_moveLanes 41 = .ok (.lload_n 1, 1) := by decide +kernel
theorem dP_moveLanes_42 : decode cP_moveLanes 42 = .ok (.bipush 64, 2) := by decide +kernel
theorem dP_moveLanes_44 : decode cP_moveLanes 44 = .ok (.iload 5, 2) := by decide +kernel
theorem dP_moveLanes_46 : decode cP_moveLanes 46 = .ok (.isub, 1) := by decide +kernel
theorem dP_moveLanes_47 : decode cP_moveLanes 47 = .ok (.lushr, 1) := by decide +kernel
theorem dP_moveLanes_48 : decode cP_moveLanes 48 = .ok (.lor, 1) := by decide +kernel
theorem dP_moveLanes_49 : decode cP_moveLanes 49 = .ok (.lastore, 1) := by decide +kernel
theorem dP_moveLanes_50 : decode cP_moveLanes 50 = .ok (.lload 6, 2) := by decide +kernel
theorem dP_moveLanes_52 : decode cP_moveLanes 52 = .ok (.lstore_n 1, 1) := by decide +kernel
theorem dP_moveLanes_53 : decode cP_moveLanes 53 = .ok (.iinc 3 1, 3) := by decide +kernel
theorem dP_moveLanes_56 : decode cP_moveLanes 56 = .ok (.goto (-50), 3) := by decide +kernel
theorem dP_moveLanes_59 : decode cP_moveLanes 59 = .ok (.return_, 1) := by decide +kernel
theorem dP_mixRows_0 : decode cP_mixRows 0 = .ok (.iconst 0, 1) := by decide +kernel
theorem dP_mixRows_1 : decode cP_mixRows 1 = .ok (.istore_n 1, 1) := by decide +kernel
theorem dP_mixRows_2 : decode cP_mixRows 2 = .ok (.iload_n 1, 1) := by decide +kernel
theorem dP_mixRows_3 : decode cP_mixRows 3 = .ok (.bipush 25, 2) := by decide +kernel
theorem dP_mixRows_5 : decode cP_mixRows 5 = .ok (.if_icmp .ge 121, 3) := by decide +kernel
theorem dP_mixRows_8 : decode cP_mixRows 8 = .ok (.aload_n 0, 1) := by decide +kernel
theorem dP_mixRows_9 : decode cP_mixRows 9 = .ok (.iload_n 1, 1) := by decide +kernel
theorem dP_mixRows_10 : decode cP_mixRows 10 = .ok (.laload, 1) := by decide +kernel
theorem dP_mixRows_11 : decode cP_mixRows 11 = .ok (.lstore_n 2, 1) := by decide +kernel
theorem dP_mixRows_12 : decode cP_mixRows 12 = .ok (.aload_n 0, 1) := by decide +kernel
theorem dP_mixRows_13 : decode cP_mixRows 13 = .ok (.iload_n 1, 1) := by decide +kernel
theorem dP_mixRows_14 : decode cP_mixRows 14 = .ok (.iconst 1, 1) := by decide +kernel
theorem dP_mixRows_15 : decode cP_mixRows 15 = .ok (.iadd, 1) := by decide +kernel
theorem dP_mixRows_16 : decode cP_mixRows 16 = .ok (.laload, 1) := by decide +kernel
theorem dP_mixRows_17 : decode cP_mixRows 17 = .ok (.lstore 4, 2) := by decide +kernel
theorem dP_mixRows_19 : decode cP_mixRows 19 = .ok (.aload_n 0, 1) := by decide +kernel
theorem dP_mixRows_20 : decode cP_mixRows 20 = .ok (.iload_n 1, 1) := by decide +kernel
theorem dP_mixRows_21 : decode cP_mixRows 21 = .ok (.iconst 2, 1) := by decide +kernel
theorem dP_mixRows_22 : decode cP_mixRows 22 = .ok (.iadd, 1) := by decide +kernel
theorem dP_mixRows_23 : decode cP_mixRows 23 = .ok (.laload, 1) := by decide +kernel
theorem dP_mixRows_24 : decode cP_mixRows 24 = .ok (.lstore 6, 2) := by decide +kernel
theorem dP_mixRows_26 : decode cP_mixRows 26 = .ok (.aload_n 0, 1) := by decide +kernel
theorem dP_mixRows_27 : decode cP_mixRows 27 = .ok (.iload_n 1, 1) := by decide +kernel
theorem dP_mixRows_28 : decode cP_mixRows 28 = .ok (.iconst 3, 1) := by decide +kernel
theorem dP_mixRows_29 : decode cP_mixRows 29 = .ok (.iadd, 1) := by decide +kernel
theorem dP_mixRows_30 : decode cP_mixRows 30 = .ok (.laload, 1) := by decide +kernel
theorem dP_mixRows_31 : decode cP_mixRows 31 = .ok (.lstore 8, 2) := by decide +kernel
theorem dP_mixRows_33 : decode cP_mixRows 33 = .ok (.aload_n 0, 1) := by decide +kernel
theorem dP_mixRows_34 : decode cP_mixRows 34 = .ok (.iload_n 1, 1) := by decide +kernel
theorem dP_mixRows_35 : decode cP_mixRows 35 = .ok (.iconst 4, 1) := by decide +kernel
theorem dP_mixRows_36 : decode cP_mixRows 36 = .ok (.iadd, 1) := by decide +kernel
theorem dP_mixRows_37 : decode cP_mixRows 37 = .ok (.laload, 1) := by decide +kernel
theorem dP_mixRows_38 : decode cP_mixRows 38 = .ok (.lstore 10, 2) := by decide +kernel
theorem dP_mixRows_40 : decode cP_mixRows 40 = .ok (.aload_n 0, 1) := by decide +kernel
theorem dP_mixRows_41 : decode cP_mixRows 41 = .ok (.iload_n 1, 1) := by decide +kernel
theorem dP_mixRows_42 : decode cP_mixRows 42 = .ok (.lload_n 2, 1) := by decide +kernel
theorem dP_mixRows_43 : decode cP_mixRows 43 = .ok (.lload 4, 2) := by decide +kernel
theorem dP_mixRows_45 : decode cP_mixRows 45 = .ok (.ldc2_w 16, 3) := by decide +kernel
theorem dP_mixRows_48 : decode cP_mixRows 48 = .ok (.lxor, 1) := by decide +kernel
theorem dP_mixRows_49 : decode cP_mixRows 49 = .ok (.lload 6, 2) := by decide +kernel
theorem dP_mixRows_51 : decode cP_mixRows 51 = .ok (.land, 1) := by decide +kernel
theorem dP_mixRows_52 : decode cP_mixRows 52 = .ok (.lxor, 1) := by decide +kernel
theorem dP_mixRows_53 : decode cP_mixRows 53 = .ok (.lastore, 1) := by decide +kernel
theorem dP_mixRows_54 : decode cP_mixRows 54 = .ok (.aload_n 0, 1) := by decide +kernel
theorem dP_mixRows_55 : decode cP_mixRows 55 = .ok (.iload_n 1, 1) := by decide +kernel
theorem dP_mixRows_56 : decode cP_mixRows 56 = .ok (.iconst 1, 1) := by decide +kernel
theorem dP_mixRows_57 : decode cP_mixRows 57 = .ok (.iadd, 1) := by decide +kernel
theorem dP_mixRows_58 : decode cP_mixRows 58 = .ok (.lload 4, 2) := by decide +kernel
theorem dP_mixRows_60 : decode cP_mixRows 60 = .ok (.lload 6, 2) := by decide +kernel
theorem dP_mixRows_62 : decode cP_mixRows 62 = .ok (.ldc2_w 16, 3) := by decide +kernel
theorem dP_mixRows_65 : decode cP_mixRows 65 = .ok (.lxor, 1) := by decide +kernel
theorem dP_mixRows_66 : decode cP_mixRows 66 = .ok (.lload 8, 2) := by decide +kernel
theorem dP_mixRows_68 : decode cP_mixRows 68 = .ok (.land, 1) := by decide +kernel
theorem dP_mixRows_69 : decode cP_mixRows 69 = .ok (.lxor, 1) := by decide +kernel
theorem dP_mixRows_70 : decode cP_mixRows 70 = .ok (.lastore, 1) := by decide +kernel
theorem dP_mixRows_71 : decode cP_mixRows 71 = .ok (.aload_n 0, 1) := by decide +kernel
theorem dP_mixRows_72 : decode cP_mixRows 72 = .ok (.iload_n 1, 1) := by decide +kernel
theorem dP_mixRows_73 : decode cP_mixRows 73 = .ok (.iconst 2, 1) := by decide +kernel
theorem dP_mixRows_74 : decode cP_mixRows 74 = .ok (.iadd, 1) := by decide +kernel
theorem dP_mixRows_75 : decode cP_mixRows 75 = .ok (.lload 6, 2) := by decide +kernel
theorem dP_mixRows_77 : decode cP_mixRows 77 = .ok (.lload 8, 2) := by decide +kernel
theorem dP_mixRows_79 : decode cP_mixRows 79 = .ok (.ldc2_w 16, 3) := by decide +kernel
theorem dP_mixRows_82 : decode cP_mixRows 82 = .ok (.lxor, 1) := by decide +kernel
theorem dP_mixRows_83 : decode cP_mixRows 83 = .ok (.lload 10, 2) := by decide +kernel
theorem dP_mixRows_85 : decode cP_mixRows 85 = .ok (.land, 1) := by decide +kernel
theorem dP_mixRows_86 : decode cP_mixRows 86 = .ok (.lxor, 1) := by decide +kernel
theorem dP_mixRows_87 : decode cP_mixRows 87 = .ok (.lastore, 1) := by decide +kernel
theorem dP_mixRows_88 : decode cP_mixRows 88 = .ok (.aload_n 0, 1) := by decide +kernel
theorem dP_mixRows_89 : decode cP_mixRows 89 = .ok (.iload_n 1, 1) := by decide +kernel
theorem dP_mixRows_90 : decode cP_mixRows 90 = .ok (.iconst 3, 1) := by decide +kernel
theorem dP_mixRows_91 : decode cP_mixRows 91 = .ok (.iadd, 1) := by decide +kernel
theorem dP_mixRows_92 : decode cP_mixRows 92 = .ok (.lload 8, 2) := by decide +kernel
theorem dP_mixRows_94 : decode cP_mixRows 94 = .ok (.lload 10, 2) := by decide +kernel
theorem dP_mixRows_96 : decode cP_mixRows 96 = .ok (.ldc2_w 16, 3) := by decide +kernel
theorem dP_mixRows_99 : decode cP_mixRows 99 = .ok (.lxor, 1) := by decide +kernel
theorem dP_mixRows_100 : decode cP_mixRows 100 = .ok (.lload_n 2, 1) := by decide +kernel
theorem dP_mixRows_101 : decode cP_mixRows 101 = .ok (.land, 1) := by decide +kernel
theorem dP_mixRows_102 : decode cP_mixRows 102 = .ok (.lxor, 1) := by decide +kernel
theorem dP_mixRows_103 : decode cP_mixRows 103 = .ok (.lastore, 1) := by decide +kernel
theorem dP_mixRows_104 : decode cP_mixRows 104 = .ok (.aload_n 0, 1) := by decide +kernel
theorem dP_mixRows_105 : decode cP_mixRows 105 = .ok (.iload_n 1, 1) := by decide +kernel
theorem dP_mixRows_106 : decode cP_mixRows 106 = .ok (.iconst 4, 1) := by decide +kernel
theorem dP_mixRows_107 : decode cP_mixRows 107 = .ok (.iadd, 1) := by decide +kernel
theorem dP_mixRows_108 : decode cP_mixRows 108 = .ok (.lload 10, 2) := by decide +kernel
theorem dP_mixRows_110 : decode cP_mixRows 110 = .ok (.lload_n 2, 1) := by decide +kernel
theorem dP_mixRows_111 : decode cP_mixRows 111 = .ok (.ldc2_w 16, 3) := by decide +kernel
theorem dP_mixRows_114 : decode cP_mixRows 114 = .ok (.lxor, 1) := by decide +kernel
theorem dP_mixRows_115 : decode cP_mixRows 115 = .ok (.lload 4, 2) := by decide +kernel
theorem dP_mixRows_117 : decode cP_mixRows 117 = .ok (.land, 1) := by decide +kernel
theorem dP_mixRows_118 : decode cP_mixRows 118 = .ok (.lxor, 1) := by decide +kernel
theorem dP_mixRows_119 : decode cP_mixRows 119 = .ok (.lastore, 1) := by decide +kernel
theorem dP_mixRows_120 : decode cP_mixRows 120 = .ok (.iinc 1 5, 3) := by decide +kernel
theorem dP_mixRows_123 : decode cP_mixRows 123 = .ok (.goto (-121), 3) := by decide +kernel
theorem dP_mixRows_126 : decode cP_mixRows 126 = .ok (.return_, 1) := by decide +kernel
theorem dR_init_0 : decode cR_init 0 = .ok (.aload_n 0, 1) := by decide +kernel
theorem dR_init_1 : decode cR_init 1 = .ok (.invokespecial 1, 3) := by decide +kernel
theorem dR_init_4 : decode cR_init 4 = .ok (.aload_n 0, 1) := by decide +kernel
theorem dR_init_5 : decode cR_init 5 = .ok (.sipush 300, 3) := by decide +kernel
theorem dR_init_8 : decode cR_init 8 = .ok (.newarray .byte, 2) := by decide +kernel
theorem dR_init_10 : decode cR_init 10 = .ok (.putfield 9, 3) := by decide +kernel
theorem dR_init_13 : decode cR_init 13 = .ok (.aload_n 0, 1) := by decide +kernel
theorem dR_init_14 : decode cR_init 14 = .ok (.iconst 0, 1) := by decide +kernel
theorem dR_init_15 : decode cR_init 15 = .ok (.putfield 13, 3) := by decide +kernel
theorem dR_init_18 : decode cR_init 18 = .ok (.return_, 1) := by decide +kernel
theorem dR_hasRoomFor_0 : decode cR_hasRoomFor 0 = .ok (.aload_n 0, 1) := by decide +kernel
theorem dR_hasRoomFor_1 : decode cR_hasRoomFor 1 = .ok (.getfield 13, 3) := by decide +kernel
theorem dR_hasRoomFor_4 : decode cR_hasRoomFor 4 = .ok (.iload_n 1, 1) := by decide +kernel
theorem dR_hasRoomFor_5 : decode cR_hasRoomFor 5 = .ok (.iadd, 1) := by decide +kernel
theorem dR_hasRoomFor_6 : decode cR_hasRoomFor 6 = .ok (.sipush 300, 3) := by decide +kernel
theorem dR_hasRoomFor_9 : decode cR_hasRoomFor 9 = .ok (.if_icmp .gt 7, 3) := by decide +kernel
theorem dR_hasRoomFor_12 : decode cR_hasRoomFor 12 = .ok (.iconst 1, 1) := by decide +kernel
theorem dR_hasRoomFor_13 : decode cR_hasRoomFor 13 = .ok (.goto 4, 3) := by decide +kernel
theorem dR_hasRoomFor_16 : decode cR_hasRoomFor 16 = .ok (.iconst 0, 1) := by decide +kernel
theorem dR_hasRoomFor_17 : decode cR_hasRoomFor 17 = .ok (.ireturn, 1) := by decide +kernel
theorem dR_append_0 : decode cR_append 0 = .ok (.iconst 0, 1) := by decide +kernel
theorem dR_append_1 : decode cR_append 1 = .ok (.istore 4, 2) := by decide +kernel
theorem dR_append_3 : decode cR_append 3 = .ok (.iload 4, 2) := by decide +kernel
theorem dR_append_5 : decode cR_append 5 = .ok (.iload_n 1, 1) := by decide +kernel
theorem dR_append_6 : decode cR_append 6 = .ok (.if_icmp .ge 30, 3) := by decide +kernel
theorem dR_append_9 : decode cR_append 9 = .ok (.aload_n 0, 1) := by decide +kernel
theorem dR_append_10 : decode cR_append 10 = .ok (.getfield 9, 3) := by decide +kernel
theorem dR_append_13 : decode cR_append 13 = .ok (.aload_n 0, 1) := by decide +kernel
theorem dR_append_14 : decode cR_append 14 = .ok (.getfield 13, 3) := by decide +kernel
theorem dR_append_17 : decode cR_append 17 = .ok (.iload 4, 2) := by decide +kernel
theorem dR_append_19 : decode cR_append 19 = .ok (.iadd, 1) := by decide +kernel
theorem dR_append_20 : decode cR_append 20 = .ok (.lload_n 2, 1) := by decide +kernel
theorem dR_append_21 : decode cR_append 21 = .ok (.bipush 8, 2) := by decide +kernel
theorem dR_append_23 : decode cR_append 23 = .ok (.iload 4, 2) := by decide +kernel
theorem dR_append_25 : decode cR_append 25 = .ok (.imul, 1) := by decide +kernel
theorem dR_append_26 : decode cR_append 26 = .ok (.lushr, 1) := by decide +kernel
theorem dR_append_27 : decode cR_append 27 = .ok (.l2i, 1) := by decide +kernel
theorem dR_append_28 : decode cR_append 28 = .ok (.i2b, 1) := by decide +kernel
theorem dR_append_29 : decode cR_append 29 = .ok (.bastore, 1) := by decide +kernel
theorem dR_append_30 : decode cR_append 30 = .ok (.iinc 4 1, 3) := by decide +kernel
theorem dR_append_33 : decode cR_append 33 = .ok (.goto (-30), 3) := by decide +kernel
theorem dR_append_36 : decode cR_append 36 = .ok (.aload_n 0, 1) := by decide +kernel
theorem dR_append_37 : decode cR_append 37 = .ok (.dup, 1) := by decide +kernel
theorem dR_append_38 : decode cR_append 38 = .ok (.getfield 13, 3) := by decide +kernel
theorem dR_append_41 : decode cR_append 41 = .ok (.iload_n 1, 1) := by decide +kernel
theorem dR_append_42 : decode cR_append 42 = .ok (.iadd, 1) := by decide +kernel
theorem dR_append_43 : decode cR_append 43 = .ok (.putfield 13, 3) := by decide +kernel
theorem dR_append_46 : decode cR_append 46 = .ok (.aload_n 0, 1) := by decide +kernel
theorem dR_append_47 : decode cR_append 47 = .ok (.getfield 13, 3) := by decide +kernel
theorem dR_append_50 : decode cR_append 50 = .ok (.ireturn, 1) := by decide +kernel
theorem dR_becomeLike_0 : decode cR_becomeLike 0 = .ok (.aload_n 1, 1) := by decide +kernel
theorem dR_becomeLike_1 : decode cR_becomeLike 1 = .ok (.getfield 9, 3) := by decide +kernel
theorem dR_becomeLike_4 : decode cR_becomeLike 4 = .ok (.iconst 0, 1) := by decide +kernel
theorem dR_becomeLike_5 : decode cR_becomeLike 5 = .ok (.aload_n 0, 1) := by decide +kernel
theorem dR_becomeLike_6 : decode cR_becomeLike 6 = .ok (.getfield 9, 3) := by decide +kernel
theorem dR_becomeLike_9 : decode cR_becomeLike 9 = .ok (.iconst 0, 1) := by decide +kernel
theorem dR_becomeLike_10 : decode cR_becomeLike 10 = .ok (.aload_n 1, 1) := by decide +kernel
theorem dR_becomeLike_11 : decode cR_becomeLike 11 = .ok (.getfield 13, 3) := by decide +kernel
theorem dR_becomeLike_14 : decode cR_becomeLike 14 = .ok (.invokestatic 17, 3) := by decide +kernel
theorem dR_becomeLike_17 : decode cR_becomeLike 17 = .ok (.aload_n 0, 1) := by decide +kernel
theorem dR_becomeLike_18 : decode cR_becomeLike 18 = .ok (.aload_n 1, 1) := by decide +kernel
theorem dR_becomeLike_19 : decode cR_becomeLike 19 = .ok (.getfield 13, 3) := by decide +kernel
theorem dR_becomeLike_22 : decode cR_becomeLike 22 = .ok (.putfield 13, 3) := by decide +kernel
theorem dR_becomeLike_25 : decode cR_becomeLike 25 = .ok (.return_, 1) := by decide +kernel
theorem dS_init_0 : decode cS_init 0 = .ok (.aload_n 0, 1) := by decide +kernel
theorem dS_init_1 : decode cS_init 1 = .ok (.invokespecial 3, 3) := by decide +kernel
theorem dS_init_4 : decode cS_init 4 = .ok (.aload_n 0, 1) := by decide +kernel
theorem dS_init_5 : decode cS_init 5 = .ok (.bipush 25, 2) := by decide +kernel
theorem dS_init_7 : decode cS_init 7 = .ok (.newarray .long, 2) := by decide +kernel
theorem dS_init_9 : decode cS_init 9 = .ok (.putfield 11, 3) := by decide +kernel
theorem dS_init_12 : decode cS_init 12 = .ok (.aload_n 0, 1) := by decide +kernel
theorem dS_init_13 : decode cS_init 13 = .ok (.iconst 0, 1) := by decide +kernel
theorem dS_init_14 : decode cS_init 14 = .ok (.invokevirtual 17, 3) := by decide +kernel
theorem dS_init_17 : decode cS_init 17 = .ok (.return_, 1) := by decide +kernel
theorem dS_restart_0 : decode cS_restart 0 = .ok (.aload_n 0, 1) := by decide +kernel
theorem dS_restart_1 : decode cS_restart 1 = .ok (.getfield 11, 3) := by decide +kernel
theorem dS_restart_4 : decode cS_restart 4 = .ok (.lconst 0, 1) := by decide +kernel
theorem dS_restart_5 : decode cS_restart 5 = .ok (.invokestatic 21, 3) := by decide +kernel
theorem dS_restart_8 : decode cS_restart 8 = .ok (.aload_n 0, 1) := by decide +kernel
theorem dS_restart_9 : decode cS_restart 9 = .ok (.iload_n 1, 1) := by decide +kernel
theorem dS_restart_10 : decode cS_restart 10 = .ok (.putfield 27, 3) := by decide +kernel
theorem dS_restart_13 : decode cS_restart 13 = .ok (.aload_n 0, 1) := by decide +kernel
theorem dS_restart_14 : decode cS_restart 14 = .ok (.getstatic 31, 3) := by decide +kernel
theorem dS_restart_17 : decode cS_restart 17 = .ok (.iload_n 1, 1) := by decide +kernel
theorem dS_restart_18 : decode cS_restart 18 = .ok (.iaload, 1) := by decide +kernel
theorem dS_restart_19 : decode cS_restart 19 = .ok (.putfield 35, 3) := by decide +kernel
theorem dS_restart_22 : decode cS_restart 22 = .ok (.aload_n 0, 1) := by decide +kernel
theorem dS_restart_23 : decode cS_restart 23 = .ok (.iconst 0, 1) := by decide +kernel
theorem dS_restart_24 : decode cS_restart 24 = .ok (.putfield 38, 3) := by decide +kernel
theorem dS_restart_27 : decode cS_restart 27 = .ok (.aload_n 0, 1) := by decide +kernel
theorem dS_restart_28 : decode cS_restart 28 = .ok (.iload_n 1, 1) := by decide +kernel
theorem dS_restart_29 : decode cS_restart 29 = .ok (.iconst 4, 1) := by decide +kernel
theorem dS_restart_30 : decode cS_restart 30 = .ok (.if_icmp .ge 8, 3) := by decide +kernel
theorem dS_restart_33 : decode cS_restart 33 = .ok (.bipush 6, 2) := by decide +kernel
theorem dS_restart_35 : decode cS_restart 35 = .ok (.goto 5, 3) := by decide +kernel
theorem dS_restart_38 : decode cS_restart 38 = .ok (.bipush 31, 2) := by decide +kernel
theorem dS_restart_40 : decode cS_restart 40 = .ok (.putfield 41, 3) := by decide +kernel
theorem dS_restart_43 : decode cS_restart 43 = .ok (.aload_n 0, 1) := by decide +kernel
theorem dS_restart_44 : decode cS_restart 44 = .ok (.iconst 0, 1) := by decide +kernel
theorem dS_restart_45 : decode cS_restart 45 = .ok (.putfield 44, 3) := by decide +kernel
theorem dS_restart_48 : decode cS_restart 48 = .ok (.aload_n 0, 1) := by decide +kernel
theorem dS_restart_49 : decode cS_restart 49 = .ok (.iconst 0, 1) := by decide +kernel
theorem dS_restart_50 : decode cS_restart 50 = .ok (.putfield 47, 3) := by decide +kernel
theorem dS_restart_53 : decode cS_restart 53 = .ok (.aload_n 0, 1) := by decide +kernel
theorem dS_restart_54 : decode cS_restart 54 = .ok (.iconst (-1), 1) := by decide +kernel
theorem dS_restart_55 : decode cS_restart 55 = .ok (.putfield 51, 3) := by decide +kernel
theorem dS_restart_58 : decode cS_restart 58 = .ok (.return_, 1) := by decide +kernel
theorem dS_becomeLike_0 : decode cS_becomeLike 0 = .ok (.aload_n 1, 1) := by decide +kernel
theorem dS_becomeLike_1 : decode cS_becomeLike 1 = .ok (.getfield 11, 3) := by decide +kernel
theorem dS_becomeLike_4 : decode cS_becomeLike 4 = .ok (.iconst 0, 1) := by decide +kernel
theorem dS_becomeLike_5 : decode cS_becomeLike 5 = .ok (.aload_n 0, 1) := by decide +kernel
theorem dS_becomeLike_6 : decode cS_becomeLike 6 = .ok (.getfield 11, 3) := by decide +kernel
theorem dS_becomeLike_9 : decode cS_becomeLike 9 = .ok (.iconst 0, 1) := by decide +kernel
theorem dS_becomeLike_10 : decode cS_becomeLike 10 = .ok (.bipush 25, 2) := by decide +kernel
theorem dS_becomeLike_12 : decode cS_becomeLike 12 = .ok (.invokestatic 54, 3) := by decide +kernel
theorem dS_becomeLike_15 : decode cS_becomeLike 15 = .ok (.aload_n 0, 1) := by decide +kernel
theorem dS_becomeLike_16 : decode cS_becomeLike 16 = .ok (.aload_n 1, 1) := by decide +kernel
theorem dS_becomeLike_17 : decode cS_becomeLike 17 = .ok (.getfield 27, 3) := by decide +kernel
theorem dS_becomeLike_20 : decode cS_becomeLike 20 = .ok (.putfield 27, 3) := by decide +kernel
theorem dS_becomeLike_23 : decode cS_becomeLike 23 = .ok (.aload_n 0, 1) := by decide +kernel
theorem dS_becomeLike_24 : decode cS_becomeLike 24 = .ok (.aload_n 1, 1) := by decide +kernel
theorem dS_becomeLike_25 : decode cS_becomeLike 25 = .ok (.getfield 35, 3) := by decide +kernel
theorem dS_becomeLike_28 : decode cS_becomeLike 28 = .ok (.putfield 35, 3) := by decide +kernel
theorem dS_becomeLike_31 : decode cS_becomeLike 31 = .ok (.aload_n 0, 1) := by decide +kernel
theorem dS_becomeLike_32 : decode cS_becomeLike 32 = .ok (.aload_n 1, 1) := by decide +kernel
theorem dS_becomeLike_33 : decode cS_becomeLike 33 = .ok (.getfield 38, 3) := by decide +kernel
theorem dS_becomeLike_36 : decode cS_becomeLike 36 = .ok (.putfield 38, 3) := by decide +kernel
theorem dS_becomeLike_39 : decode cS_becomeLike 39 = .ok (.aload_n 0, 1) := by decide +kernel
theorem dS_becomeLike_40 : decode cS_becomeLike 40 = .ok (.aload_n 1, 1) := by decide +kernel
theorem dS_becomeLike_41 : decode cS_becomeLike 41 = .ok (.getfield 41, 3) := by decide +kernel
theorem dS_becomeLike_44 : decode cS_becomeLike 44 = .ok (.putfield 41, 3) := by decide +kernel
theorem dS_becomeLike_47 : decode cS_becomeLike 47 = .ok (.aload_n 0, 1) := by decide +kernel
theorem dS_becomeLike_48 : decode cS_becomeLike 48 = .ok (.aload_n 1, 1) := by decide +kernel
theorem dS_becomeLike_49 : decode cS_becomeLike 49 = .ok (.getfield 44, 3) := by decide +kernel
theorem dS_becomeLike_52 : decode cS_becomeLike 52 = .ok (.putfield 44, 3) := by decide +kernel
theorem dS_becomeLike_55 : decode cS_becomeLike 55 = .ok (.aload_n 0, 1) := by decide +kernel
theorem dS_becomeLike_56 : decode cS_becomeLike 56 = .ok (.aload_n 1, 1) := by decide +kernel
theorem dS_becomeLike_57 : decode cS_becomeLike 57 = .ok (.getfield 47, 3) := by decide +kernel
theorem dS_becomeLike_60 : decode cS_becomeLike 60 = .ok (.putfield 47, 3) := by decide +kernel
theorem dS_becomeLike_63 : decode cS_becomeLike 63 = .ok (.aload_n 0, 1) := by decide +kernel
theorem dS_becomeLike_64 : decode cS_becomeLike 64 = .ok (.aload_n 1, 1) := by decide +kernel
theorem dS_becomeLike_65 : decode cS_becomeLike 65 = .ok (.getfield 51, 3) := by decide +kernel
theorem dS_becomeLike_68 : decode cS_becomeLike 68 = .ok (.putfield 51, 3) := by decide +kernel
theorem dS_becomeLike_71 : decode cS_becomeLike 71 = .ok (.return_, 1) := by decide +kernel
theorem dS_takePrefix_0 : decode cS_takePrefix 0 = .ok (.aload_n 0, 1) := by decide +kernel
theorem dS_takePrefix_1 : decode cS_takePrefix 1 = .ok (.iconst 4, 1) := by decide +kernel
theorem dS_takePrefix_2 : decode cS_takePrefix 2 = .ok (.putfield 41, 3) := by decide +kernel
theorem dS_takePrefix_5 : decode cS_takePrefix 5 = .ok (.aload_n 0, 1) := by decide +kernel
theorem dS_takePrefix_6 : decode cS_takePrefix 6 = .ok (.aload_n 0, 1) := by decide +kernel
theorem dS_takePrefix_7 : decode cS_takePrefix 7 = .ok (.getfield 35, 3) := by decide +kernel
theorem dS_takePrefix_10 : decode cS_takePrefix 10 = .ok (.invokevirtual 60, 3) := by decide +kernel
theorem dS_takePrefix_13 : decode cS_takePrefix 13 = .ok (.aload_n 0, 1) := by decide +kernel
theorem dS_takePrefix_14 : decode cS_takePrefix 14 = .ok (.aload_n 1, 1) := by decide +kernel
theorem dS_takePrefix_15 : decode cS_takePrefix 15 = .ok (.iload_n 2, 1) := by decide +kernel
theorem dS_takePrefix_16 : decode cS_takePrefix 16 = .ok (.invokevirtual 63, 3) := by decide +kernel
theorem dS_takePrefix_19 : decode cS_takePrefix 19 = .ok (.aload_n 0, 1) := by decide +kernel
theorem dS_takePrefix_20 : decode cS_takePrefix 20 = .ok (.aload_n 3, 1) := by decide +kernel
theorem dS_takePrefix_21 : decode cS_takePrefix 21 = .ok (.getfield 67, 3) := by decide +kernel
theorem dS_takePrefix_24 : decode cS_takePrefix 24 = .ok (.aload_n 3, 1) := by decide +kernel
theorem dS_takePrefix_25 : decode cS_takePrefix 25 = .ok (.getfield 73, 3) := by decide +kernel
theorem dS_takePrefix_28 : decode cS_takePrefix 28 = .ok (.invokevirtual 63, 3) := by decide +kernel
theorem dS_takePrefix_31 : decode cS_takePrefix 31 = .ok (.aload_n 0, 1) := by decide +kernel
theorem dS_takePrefix_32 : decode cS_takePrefix 32 = .ok (.invokevirtual 76, 3) := by decide +kernel
theorem dS_takePrefix_35 : decode cS_takePrefix 35 = .ok (.return_, 1) := by decide +kernel
theorem dS_takeKey_0 : decode cS_takeKey 0 = .ok (.aload_n 0, 1) := by decide +kernel
theorem dS_takeKey_1 : decode cS_takeKey 1 = .ok (.aload_n 0, 1) := by decide +kernel
theorem dS_takeKey_2 : decode cS_takeKey 2 = .ok (.getfield 35, 3) := by decide +kernel
theorem dS_takeKey_5 : decode cS_takeKey 5 = .ok (.invokevirtual 60, 3) := by decide +kernel
theorem dS_takeKey_8 : decode cS_takeKey 8 = .ok (.aload_n 0, 1) := by decide +kernel
theorem dS_takeKey_9 : decode cS_takeKey 9 = .ok (.aload_n 1, 1) := by decide +kernel
theorem dS_takeKey_10 : decode cS_takeKey 10 = .ok (.getfield 67, 3) := by decide +kernel
theorem dS_takeKey_13 : decode cS_takeKey 13 = .ok (.aload_n 1, 1) := by decide +kernel
theorem dS_takeKey_14 : decode cS_takeKey 14 = .ok (.getfield 73, 3) := by decide +kernel
theorem dS_takeKey_17 : decode cS_takeKey 17 = .ok (.invokevirtual 63, 3) := by decide +kernel
theorem dS_takeKey_20 : decode cS_takeKey 20 = .ok (.aload_n 0, 1) := by decide +kernel
theorem dS_takeKey_21 : decode cS_takeKey 21 = .ok (.invokevirtual 76, 3) := by decide +kernel
theorem dS_takeKey_24 : decode cS_takeKey 24 = .ok (.return_, 1) := by decide +kernel
theorem dS_takeTape_0 : decode cS_takeTape 0 = .ok (.aload_n 0, 1) := by decide +kernel
theorem dS_takeTape_1 : decode cS_takeTape 1 = .ok (.getfield 27, 3) := by decide +kernel
theorem dS_takeTape_4 : decode cS_takeTape 4 = .ok (.bipush 12, 2) := by decide +kernel
theorem dS_takeTape_6 : decode cS_takeTape 6 = .ok (.if_icmp .lt 18, 3) := by decide +kernel
theorem dS_takeTape_9 : decode cS_takeTape 9 = .ok (.aload_n 0, 1) := by decide +kernel
theorem dS_takeTape_10 : decode cS_takeTape 10 = .ok (.aload_n 1, 1) := by decide +kernel
theorem dS_takeTape_11 : decode cS_takeTape 11 = .ok (.getfield 67, 3) := by decide +kernel
theorem dS_takeTape_14 : decode cS_takeTape 14 = .ok (.aload_n 1, 1) := by decide +kernel
theorem dS_takeTape_15 : decode cS_takeTape 15 = .ok (.getfield 73, 3) := by decide +kernel
theorem dS_takeTape_18 : decode cS_takeTape 18 = .ok (.invokevirtual 63, 3) := by decide +kernel
theorem dS_takeTape_21 : decode cS_takeTape 21 = .ok (.goto 15, 3) := by decide +kernel
theorem dS_takeTape_24 : decode cS_takeTape 24 = .ok (.aload_n 0, 1) := by decide +kernel
theorem dS_takeTape_25 : decode cS_takeTape 25 = .ok (.aload_n 1, 1) := by decide +kernel
theorem dS_takeTape_26 : decode cS_takeTape 26 = .ok (.getfield 67, 3) := by decide +kernel
theorem dS_takeTape_29 : decode cS_takeTape 29 = .ok (.aload_n 1, 1) := by decide +kernel
theorem dS_takeTape_30 : decode cS_takeTape 30 = .ok (.getfield 73, 3) := by decide +kernel
theorem dS_takeTape_33 : decode cS_takeTape 33 = .ok (.invokevirtual 79, 3) := by decide +kernel
theorem dS_takeTape_36 : decode cS_takeTape 36 = .ok (.aload_n 0, 1) := by decide +kernel
theorem dS_takeTape_37 : decode cS_takeTape 37 = .ok (.dup, 1) := by decide +kernel
theorem dS_takeTape_38 : decode cS_takeTape 38 = .ok (.getfield 44, 3) := by decide +kernel
theorem dS_takeTape_41 : decode cS_takeTape 41 = .ok (.aload_n 1, 1) := by decide +kernel
theorem dS_takeTape_42 : decode cS_takeTape 42 = .ok (.getfield 73, 3) := by decide +kernel
theorem dS_takeTape_45 : decode cS_takeTape 45 = .ok (.iadd, 1) := by decide +kernel
theorem dS_takeTape_46 : decode cS_takeTape 46 = .ok (.putfield 44, 3) := by decide +kernel
theorem dS_takeTape_49 : decode cS_takeTape 49 = .ok (.aload_n 0, 1) := by decide +kernel
theorem dS_takeTape_50 : decode cS_takeTape 50 = .ok (.getfield 44, 3) := by decide +kernel
theorem dS_takeTape_53 : decode cS_takeTape 53 = .ok (.ireturn, 1) := by decide +kernel
theorem dS_takeLong_0 : decode cS_takeLong 0 = .ok (.iconst 0, 1) := by decide +kernel
theorem dS_takeLong_1 : decode cS_takeLong 1 = .ok (.istore 4, 2) := by decide +kernel
theorem dS_takeLong_3 : decode cS_takeLong 3 = .ok (.iload 4, 2) := by decide +kernel
theorem dS_takeLong_5 : decode cS_takeLong 5 = .ok (.iload_n 1, 1) := by decide +kernel
theorem dS_takeLong_6 : decode cS_takeLong 6 = .ok (.if_icmp .ge 21, 3) := by decide +kernel
theorem dS_takeLong_9 : decode cS_takeLong 9 = .ok (.aload_n 0, 1) := by decide +kernel
theorem dS_takeLong_10 : decode cS_takeLong 10 = .ok (.lload_n 2, 1) := by decide +kernel
theorem dS_takeLong_11 : decode cS_takeLong 11 = .ok (.bipush 8, 2) := by decide +kernel
theorem dS_takeLong_13 : decode cS_takeLong 13 = .ok (.iload 4, 2) := by decide +kernel
theorem dS_takeLong_15 : decode cS_takeLong 15 = .ok (.imul, 1) := by decide +kernel
theorem dS_takeLong_16 : decode cS_takeLong 16 = .ok (.lushr, 1) := by decide +kernel
theorem dS_takeLong_17 : decode cS_takeLong 17 = .ok (.l2i, 1) := by decide +kernel
theorem dS_takeLong_18 : decode cS_takeLong 18 = .ok (.invokevirtual 82, 3) := by decide +kernel
theorem dS_takeLong_21 : decode cS_takeLong 21 = .ok (.iinc 4 1, 3) := by decide +kernel
theorem dS_takeLong_24 : decode cS_takeLong 24 = .ok (.goto (-21), 3) := by decide +kernel
theorem dS_takeLong_27 : decode cS_takeLong 27 = .ok (.aload_n 0, 1) := by decide +kernel
theorem dS_takeLong_28 : decode cS_takeLong 28 = .ok (.dup, 1) := by decide +kernel
theorem dS_takeLong_29 : decode cS_takeLong 29 = .ok (.getfield 44, 3) := by decide +kernel
theorem dS_takeLong_32 : decode cS_takeLong 32 = .ok (.iload_n 1, 1) := by decide +kernel
theorem dS_takeLong_33 : decode cS_takeLong 33 = .ok (.iadd, 1) := by decide +kernel
theorem dS_takeLong_34 : decode cS_takeLong 34 = .ok (.putfield 44, 3) := by decide +kernel
theorem dS_takeLong_37 : decode cS_takeLong 37 = .ok (.aload_n 0, 1) := by decide +kernel
theorem dS_takeLong_38 : decode cS_takeLong 38 = .ok (.getfield 44, 3) := by decide +kernel
theorem dS_takeLong_41 : decode cS_takeLong 41 = .ok (.ireturn, 1) := by decide +kernel
theorem dS_finish_0 : decode cS_finish 0 = .ok (.aload_n 0, 1) := by decide +kernel
theorem dS_finish_1 : decode cS_finish 1 = .ok (.getfield 27, 3) := by decide +kernel
theorem dS_finish_4 : decode cS_finish 4 = .ok (.bipush 8, 2) := by decide +kernel
theorem dS_finish_6 : decode cS_finish 6 = .ok (.if_icmp .lt 11, 3) := by decide +kernel
theorem dS_finish_9 : decode cS_finish 9 = .ok (.aload_n 0, 1) := by decide +kernel
theorem dS_finish_10 : decode cS_finish 10 = .ok (.bipush 8, 2) := by decide +kernel
theorem dS_finish_12 : decode cS_finish 12 = .ok (.iload_n 1, 1) := by decide +kernel
theorem dS_finish_13 : decode cS_finish 13 = .ok (.imul, 1) := by decide +kernel
theorem dS_finish_14 : decode cS_finish 14 = .ok (.invokevirtual 85, 3) := by decide +kernel
theorem dS_finish_17 : decode cS_finish 17 = .ok (.aload_n 0, 1) := by decide +kernel
theorem dS_finish_18 : decode cS_finish 18 = .ok (.aload_n 0, 1) := by decide +kernel
theorem dS_finish_19 : decode cS_finish 19 = .ok (.getfield 38, 3) := by decide +kernel
theorem dS_finish_22 : decode cS_finish 22 = .ok (.aload_n 0, 1) := by decide +kernel
theorem dS_finish_23 : decode cS_finish 23 = .ok (.getfield 41, 3) := by decide +kernel
theorem dS_finish_26 : decode cS_finish 26 = .ok (.invokevirtual 88, 3) := by decide +kernel
theorem dS_finish_29 : decode cS_finish 29 = .ok (.aload_n 0, 1) := by decide +kernel
theorem dS_finish_30 : decode cS_finish 30 = .ok (.aload_n 0, 1) := by decide +kernel
theorem dS_finish_31 : decode cS_finish 31 = .ok (.getfield 35, 3) := by decide +kernel
theorem dS_finish_34 : decode cS_finish 34 = .ok (.iconst 1, 1) := by decide +kernel
theorem dS_finish_35 : decode cS_finish 35 = .ok (.isub, 1) := by decide +kernel
theorem dS_finish_36 : decode cS_finish 36 = .ok (.sipush 128, 3) := by decide +kernel
theorem dS_finish_39 : decode cS_finish 39 = .ok (.invokevirtual 88, 3) := by decide +kernel
theorem dS_finish_42 : decode cS_finish 42 = .ok (.aload_n 0, 1) := by decide +kernel
theorem dS_finish_43 : decode cS_finish 43 = .ok (.invokevirtual 92, 3) := by decide +kernel
theorem dS_finish_46 : decode cS_finish 46 = .ok (.aload_n 0, 1) := by decide +kernel
theorem dS_finish_47 : decode cS_finish 47 = .ok (.iconst 1, 1) := by decide +kernel
theorem dS_finish_48 : decode cS_finish 48 = .ok (.putfield 47, 3) := by decide +kernel
theorem dS_finish_51 : decode cS_finish 51 = .ok (.aload_n 0, 1) := by decide +kernel
theorem dS_finish_52 : decode cS_finish 52 = .ok (.iload_n 1, 1) := by decide +kernel
theorem dS_finish_53 : decode cS_finish 53 = .ok (.ifCond .ne 7, 3) := by decide +kernel
theorem dS_finish_56 : decode cS_finish 56 = .ok (.iconst (-1), 1) := by decide +kernel
theorem dS_finish_57 : decode cS_finish 57 = .ok (.goto 4, 3) := by decide +kernel
theorem dS_finish_60 : decode cS_finish 60 = .ok (.iload_n 1, 1) := by decide +kernel
theorem dS_finish_61 : decode cS_finish 61 = .ok (.putfield 51, 3) := by decide +kernel
theorem dS_finish_64 : decode cS_finish 64 = .ok (.return_, 1) := by decide +kernel
theorem dS_canGive_0 : decode cS_canGive 0 = .ok (.aload_n 0, 1) := by decide +kernel
theorem dS_canGive_1 : decode cS_canGive 1 = .ok (.getfield 47, 3) := by decide +kernel
theorem dS_canGive_4 : decode cS_canGive 4 = .ok (.ifCond .eq 23, 3) := by decide +kernel
theorem dS_canGive_7 : decode cS_canGive 7 = .ok (.aload_n 0, 1) := by decide +kernel
theorem dS_canGive_8 : decode cS_canGive 8 = .ok (.getfield 51, 3) := by decide +kernel
theorem dS_canGive_11 : decode cS_canGive 11 = .ok (.iconst (-1), 1) := by decide +kernel
theorem dS_canGive_12 : decode cS_canGive 12 = .ok (.if_icmp .eq 11, 3) := by decide +kernel
theorem dS_canGive_15 : decode cS_canGive 15 = .ok (.aload_n 0, 1) := by decide +kernel
theorem dS_canGive_16 : decode cS_canGive 16 = .ok (.getfield 51, 3) := by decide +kernel
theorem dS_canGive_19 : decode cS_canGive 19 = .ok (.iload_n 1, 1) := by decide +kernel
theorem dS_canGive_20 : decode cS_canGive 20 = .ok (.if_icmp .lt 7, 3) := by decide +kernel
theorem dS_canGive_23 : decode cS_canGive 23 = .ok (.iconst 1, 1) := by decide +kernel
theorem dS_canGive_24 : decode cS_canGive 24 = .ok (.goto 4, 3) := by decide +kernel
theorem dS_canGive_27 : decode cS_canGive 27 = .ok (.iconst 0, 1) := by decide +kernel
theorem dS_canGive_28 : decode cS_canGive 28 = .ok (.ireturn, 1) := by decide +kernel
theorem dS_giveLong_0 : decode cS_giveLong 0 = .ok (.lconst 0, 1) := by decide +kernel
theorem dS_giveLong_1 : decode cS_giveLong 1 = .ok (.lstore_n 2, 1) := by decide +kernel
theorem dS_giveLong_2 : decode cS_giveLong 2 = .ok (.iconst 0, 1) := by decide +kernel
theorem dS_giveLong_3 : decode cS_giveLong 3 = .ok (.istore 4, 2) := by decide +kernel
theorem dS_giveLong_5 : decode cS_giveLong 5 = .ok (.iload 4, 2) := by decide +kernel
theorem dS_giveLong_7 : decode cS_giveLong 7 = .ok (.iload_n 1, 1) := by decide +kernel
theorem dS_giveLong_8 : decode cS_giveLong 8 = .ok (.if_icmp .ge 22, 3) := by decide +kernel
theorem dS_giveLong_11 : decode cS_giveLong 11 = .ok (.lload_n 2, 1) := by decide +kernel
theorem dS_giveLong_12 : decode cS_giveLong 12 = .ok (.aload_n 0, 1) := by decide +kernel
theorem dS_giveLong_13 : decode cS_giveLong 13 = .ok (.invokevirtual 95, 3) := by decide +kernel
theorem dS_giveLong_16 : decode cS_giveLong 16 = .ok (.bipush 8, 2) := by decide +kernel
theorem dS_giveLong_18 : decode cS_giveLong 18 = .ok (.iload 4, 2) := by decide +kernel
theorem dS_giveLong_20 : decode cS_giveLong 20 = .ok (.imul, 1) := by decide +kernel
theorem dS_giveLong_21 : decode cS_giveLong 21 = .ok (.lshl, 1) := by decide +kernel
theorem dS_giveLong_22 : decode cS_giveLong 22 = .ok (.lor, 1) := by decide +kernel
theorem dS_giveLong_23 : decode cS_giveLong 23 = .ok (.lstore_n 2, 1) := by decide +kernel
theorem dS_giveLong_24 : decode cS_giveLong 24 = .ok (.iinc 4 1, 3) := by decide +kernel
theorem dS_giveLong_27 : decode cS_giveLong 27 = .ok (.goto (-22), 3) := by decide +kernel
theorem dS_giveLong_30 : decode cS_giveLong 30 = .ok (.aload_n 0, 1) := by decide +kernel
theorem dS_giveLong_31 : decode cS_giveLong 31 = .ok (.getfield 51, 3) := by decide +kernel
theorem dS_giveLong_34 : decode cS_giveLong 34 = .ok (.iconst (-1), 1) := by decide +kernel
theorem dS_giveLong_35 : decode cS_giveLong 35 = .ok (.if_icmp .eq 13, 3) := by decide +kernel
theorem dS_giveLong_38 : decode cS_giveLong 38 = .ok (.aload_n 0, 1) := by decide +kernel
theorem dS_giveLong_39 : decode cS_giveLong 39 = .ok (.dup, 1) := by decide +kernel
theorem dS_giveLong_40 : decode cS_giveLong 40 = .ok (.getfield 51, 3) := by decide +kernel
theorem dS_giveLong_43 : decode cS_giveLong 43 = .ok (.iload_n 1, 1) := by decide +kernel
theorem dS_giveLong_44 : decode cS_giveLong 44 = .ok (.isub, 1) := by decide +kernel
theorem dS_giveLong_45 : decode cS_giveLong 45 = .ok (.putfield 51, 3) := by decide +kernel
theorem dS_giveLong_48 : decode cS_giveLong 48 = .ok (.lload_n 2, 1) := by decide +kernel
theorem dS_giveLong_49 : decode cS_giveLong 49 = .ok (.lreturn, 1) := by decide +kernel
theorem dS_giveByte_0 : decode cS_giveByte 0 = .ok (.aload_n 0, 1) := by decide +kernel
theorem dS_giveByte_1 : decode cS_giveByte 1 = .ok (.getfield 38, 3) := by decide +kernel
theorem dS_giveByte_4 : decode cS_giveByte 4 = .ok (.aload_n 0, 1) := by decide +kernel
theorem dS_giveByte_5 : decode cS_giveByte 5 = .ok (.getfield 35, 3) := by decide +kernel
theorem dS_giveByte_8 : decode cS_giveByte 8 = .ok (.if_icmp .lt 7, 3) := by decide +kernel
theorem dS_giveByte_11 : decode cS_giveByte 11 = .ok (.aload_n 0, 1) := by decide +kernel
theorem dS_giveByte_12 : decode cS_giveByte 12 = .ok (.invokevirtual 92, 3) := by decide +kernel
theorem dS_giveByte_15 : decode cS_giveByte 15 = .ok (.aload_n 0, 1) := by decide +kernel
theorem dS_giveByte_16 : decode cS_giveByte 16 = .ok (.getfield 11, 3) := by decide +kernel
theorem dS_giveByte_19 : decode cS_giveByte 19 = .ok (.aload_n 0, 1) := by decide +kernel
theorem dS_giveByte_20 : decode cS_giveByte 20 = .ok (.getfield 38, 3) := by decide +kernel
theorem dS_giveByte_23 : decode cS_giveByte 23 = .ok (.iconst 3, 1) := by decide +kernel
theorem dS_giveByte_24 : decode cS_giveByte 24 = .ok (.iushr, 1) := by decide +kernel
theorem dS_giveByte_25 : decode cS_giveByte 25 = .ok (.laload, 1) := by decide +kernel
theorem dS_giveByte_26 : decode cS_giveByte 26 = .ok (.bipush 8, 2) := by decide +kernel
theorem dS_giveByte_28 : decode cS_giveByte 28 = .ok (.aload_n 0, 1) := by decide +kernel
theorem dS_giveByte_29 : decode cS_giveByte 29 = .ok (.getfield 38, 3) := by decide +kernel
theorem dS_giveByte_32 : decode cS_giveByte 32 = .ok (.bipush 7, 2) := by decide +kernel
theorem dS_giveByte_34 : decode cS_giveByte 34 = .ok (.iand, 1) := by decide +kernel
theorem dS_giveByte_35 : decode cS_giveByte 35 = .ok (.imul, 1) := by decide +kernel
theorem dS_giveByte_36 : decode cS_giveByte 36 = .ok (.lushr, 1) := by decide +kernel
theorem dS_giveByte_37 : decode cS_giveByte 37 = .ok (.ldc2_w 99, 3) := by decide +kernel
theorem dS_giveByte_40 : decode cS_giveByte 40 = .ok (.land, 1) := by decide +kernel
theorem dS_giveByte_41 : decode cS_giveByte 41 = .ok (.lstore_n 1, 1) := by decide +kernel
theorem dS_giveByte_42 : decode cS_giveByte 42 = .ok (.aload_n 0, 1) := by decide +kernel
theorem dS_giveByte_43 : decode cS_giveByte 43 = .ok (.dup, 1) := by decide +kernel
theorem dS_giveByte_44 : decode cS_giveByte 44 = .ok (.getfield 38, 3) := by decide +kernel
theorem dS_giveByte_47 : decode cS_giveByte 47 = .ok (.iconst 1, 1) := by decide +kernel
theorem dS_giveByte_48 : decode cS_giveByte 48 = .ok (.iadd, 1) := by decide +kernel
theorem dS_giveByte_49 : decode cS_giveByte 49 = .ok (.putfield 38, 3) := by decide +kernel
theorem dS_giveByte_52 : decode cS_giveByte 52 = .ok (.lload_n 1, 1) := by decide +kernel
theorem dS_giveByte_53 : decode cS_giveByte 53 = .ok (.lreturn, 1) := by decide +kernel
theorem dS_takeString_0 : decode cS_takeString 0 = .ok (.aload_n 0, 1) := by decide +kernel
theorem dS_takeString_1 : decode cS_takeString 1 = .ok (.bipush 8, 2) := by decide +kernel
theorem dS_takeString_3 : decode cS_takeString 3 = .ok (.iload_n 2, 1) := by decide +kernel
theorem dS_takeString_4 : decode cS_takeString 4 = .ok (.imul, 1) := by decide +kernel
theorem dS_takeString_5 : decode cS_takeString 5 = .ok (.invokevirtual 60, 3) := by decide +kernel
theorem dS_takeString_8 : decode cS_takeString 8 = .ok (.aload_n 0, 1) := by decide +kernel
theorem dS_takeString_9 : decode cS_takeString 9 = .ok (.aload_n 1, 1) := by decide +kernel
theorem dS_takeString_10 : decode cS_takeString 10 = .ok (.iload_n 2, 1) := by decide +kernel
theorem dS_takeString_11 : decode cS_takeString 11 = .ok (.invokevirtual 79, 3) := by decide +kernel
theorem dS_takeString_14 : decode cS_takeString 14 = .ok (.return_, 1) := by decide +kernel
theorem dS_takeRow_0 : decode cS_takeRow 0 = .ok (.iconst 0, 1) := by decide +kernel
theorem dS_takeRow_1 : decode cS_takeRow 1 = .ok (.istore_n 3, 1) := by decide +kernel
theorem dS_takeRow_2 : decode cS_takeRow 2 = .ok (.iload_n 3, 1) := by decide +kernel
theorem dS_takeRow_3 : decode cS_takeRow 3 = .ok (.iload_n 2, 1) := by decide +kernel
theorem dS_takeRow_4 : decode cS_takeRow 4 = .ok (.if_icmp .ge 16, 3) := by decide +kernel
theorem dS_takeRow_7 : decode cS_takeRow 7 = .ok (.aload_n 0, 1) := by decide +kernel
theorem dS_takeRow_8 : decode cS_takeRow 8 = .ok (.aload_n 1, 1) := by decide +kernel
theorem dS_takeRow_9 : decode cS_takeRow 9 = .ok (.iload_n 3, 1) := by decide +kernel
theorem dS_takeRow_10 : decode cS_takeRow 10 = .ok (.baload, 1) := by decide +kernel
theorem dS_takeRow_11 : decode cS_takeRow 11 = .ok (.invokevirtual 82, 3) := by decide +kernel
theorem dS_takeRow_14 : decode cS_takeRow 14 = .ok (.iinc 3 1, 3) := by decide +kernel
theorem dS_takeRow_17 : decode cS_takeRow 17 = .ok (.goto (-15), 3) := by decide +kernel
theorem dS_takeRow_20 : decode cS_takeRow 20 = .ok (.return_, 1) := by decide +kernel
theorem dS_takeLeft_0 : decode cS_takeLeft 0 = .ok (.iload_n 1, 1) := by decide +kernel
theorem dS_takeLeft_1 : decode cS_takeLeft 1 = .ok (.invokestatic 101, 3) := by decide +kernel
theorem dS_takeLeft_4 : decode cS_takeLeft 4 = .ok (.istore_n 2, 1) := by decide +kernel
theorem dS_takeLeft_5 : decode cS_takeLeft 5 = .ok (.aload_n 0, 1) := by decide +kernel
theorem dS_takeLeft_6 : decode cS_takeLeft 6 = .ok (.iload_n 2, 1) := by decide +kernel
theorem dS_takeLeft_7 : decode cS_takeLeft 7 = .ok (.invokevirtual 82, 3) := by decide +kernel
theorem dS_takeLeft_10 : decode cS_takeLeft 10 = .ok (.iload_n 2, 1) := by decide +kernel
theorem dS_takeLeft_11 : decode cS_takeLeft 11 = .ok (.iconst 1, 1) := by decide +kernel
theorem dS_takeLeft_12 : decode cS_takeLeft 12 = .ok (.isub, 1) := by decide +kernel
theorem dS_takeLeft_13 : decode cS_takeLeft 13 = .ok (.istore_n 3, 1) := by decide +kernel
theorem dS_takeLeft_14 : decode cS_takeLeft 14 = .ok (.iload_n 3, 1) := by decide +kernel
theorem dS_takeLeft_15 : decode cS_takeLeft 15 = .ok (.ifCond .lt 19, 3) := by decide +kernel
theorem dS_takeLeft_18 : decode cS_takeLeft 18 = .ok (.aload_n 0, 1) := by decide +kernel
theorem dS_takeLeft_19 : decode cS_takeLeft 19 = .ok (.iload_n 1, 1) := by decide +kernel
theorem dS_takeLeft_20 : decode cS_takeLeft 20 = .ok (.bipush 8, 2) := by decide +kernel
theorem dS_takeLeft_22 : decode cS_takeLeft 22 = .ok (.iload_n 3, 1) := by decide +kernel
theorem dS_takeLeft_23 : decode cS_takeLeft 23 = .ok (.imul, 1) := by decide +kernel
theorem dS_takeLeft_24 : decode cS_takeLeft 24 = .ok (.iushr, 1) := by decide +kernel
theorem dS_takeLeft_25 : decode cS_takeLeft 25 = .ok (.invokevirtual 82, 3) := by decide +kernel
theorem dS_takeLeft_28 : decode cS_takeLeft 28 = .ok (.iinc 3 (-1), 3) := by decide +kernel
theorem dS_takeLeft_31 : decode cS_takeLeft 31 = .ok (.goto (-17), 3) := by decide +kernel
theorem dS_takeLeft_34 : decode cS_takeLeft 34 = .ok (.return_, 1) := by decide +kernel
theorem dS_takeRight_0 : decode cS_takeRight 0 = .ok (.iload_n 1, 1) := by decide +kernel
theorem dS_takeRight_1 : decode cS_takeRight 1 = .ok (.invokestatic 101, 3) := by decide +kernel
theorem dS_takeRight_4 : decode cS_takeRight 4 = .ok (.istore_n 2, 1) := by decide +kernel
theorem dS_takeRight_5 : decode cS_takeRight 5 = .ok (.iload_n 2, 1) := by decide +kernel
theorem dS_takeRight_6 : decode cS_takeRight 6 = .ok (.iconst 1, 1) := by decide +kernel
theorem dS_takeRight_7 : decode cS_takeRight 7 = .ok (.isub, 1) := by decide +kernel
theorem dS_takeRight_8 : decode cS_takeRight 8 = .ok (.istore_n 3, 1) := by decide +kernel
theorem dS_takeRight_9 : decode cS_takeRight 9 = .ok (.iload_n 3, 1) := by decide +kernel
theorem dS_takeRight_10 : decode cS_takeRight 10 = .ok (.ifCond .lt 19, 3) := by decide +kernel
theorem dS_takeRight_13 : decode cS_takeRight 13 = .ok (.aload_n 0, 1) := by decide +kernel
theorem dS_takeRight_14 : decode cS_takeRight 14 = .ok (.iload_n 1, 1) := by decide +kernel
theorem dS_takeRight_15 : decode cS_takeRight 15 = .ok (.bipush 8, 2) := by decide +kernel
theorem dS_takeRight_17 : decode cS_takeRight 17 = .ok (.iload_n 3, 1) := by decide +kernel
theorem dS_takeRight_18 : decode cS_takeRight 18 = .ok (.imul, 1) := by decide +kernel
theorem dS_takeRight_19 : decode cS_takeRight 19 = .ok (.iushr, 1) := by decide +kernel
theorem dS_takeRight_20 : decode cS_takeRight 20 = .ok (.invokevirtual 82, 3) := by decide +kernel
theorem dS_takeRight_23 : decode cS_takeRight 23 = .ok (.iinc 3 (-1), 3) := by decide +kernel
theorem dS_takeRight_26 : decode cS_takeRight 26 = .ok (.goto (-17), 3) := by decide +kernel
theorem dS_takeRight_29 : decode cS_takeRight 29 = .ok (.aload_n 0, 1) := by decide +kernel
theorem dS_takeRight_30 : decode cS_takeRight 30 = .ok (.iload_n 2, 1) := by decide +kernel
theorem dS_takeRight_31 : decode cS_takeRight 31 = .ok (.invokevirtual 82, 3) := by decide +kernel
theorem dS_takeRight_34 : decode cS_takeRight 34 = .ok (.return_, 1) := by decide +kernel
theorem dS_sizeOf_0 : decode cS_sizeOf 0 = .ok (.iconst 1, 1) := by decide +kernel
theorem dS_sizeOf_1 : decode cS_sizeOf 1 = .ok (.istore_n 1, 1) := by decide +kernel
theorem dS_sizeOf_2 : decode cS_sizeOf 2 = .ok (.iload_n 1, 1) := by decide +kernel
theorem dS_sizeOf_3 : decode cS_sizeOf 3 = .ok (.iconst 4, 1) := by decide +kernel
theorem dS_sizeOf_4 : decode cS_sizeOf 4 = .ok (.if_icmp .ge 18, 3) := by decide +kernel
theorem dS_sizeOf_7 : decode cS_sizeOf 7 = .ok (.iload_n 0, 1) := by decide +kernel
theorem dS_sizeOf_8 : decode cS_sizeOf 8 = .ok (.bipush 8, 2) := by decide +kernel
theorem dS_sizeOf_10 : decode cS_sizeOf 10 = .ok (.iload_n 1, 1) := by decide +kernel
theorem dS_sizeOf_11 : decode cS_sizeOf 11 = .ok (.imul, 1) := by decide +kernel
theorem dS_sizeOf_12 : decode cS_sizeOf 12 = .ok (.iushr, 1) := by decide +kernel
theorem dS_sizeOf_13 : decode cS_sizeOf 13 = .ok (.ifCond .eq 9, 3) := by decide +kernel
theorem dS_sizeOf_16 : decode cS_sizeOf 16 = .ok (.iinc 1 1, 3) := by decide +kernel
theorem dS_sizeOf_19 : decode cS_sizeOf 19 = .ok (.goto (-17), 3) := by decide +kernel
theorem dS_sizeOf_22 : decode cS_sizeOf 22 = .ok (.iload_n 1, 1) := by decide +kernel
theorem dS_sizeOf_23 : decode cS_sizeOf 23 = .ok (.ireturn, 1) := by decide +kernel
theorem dS_takeByte_0 : decode cS_takeByte 0 = .ok (.aload_n 0, 1) := by decide +kernel
theorem dS_takeByte_1 : decode cS_takeByte 1 = .ok (.aload_n 0, 1) := by decide +kernel
theorem dS_takeByte_2 : decode cS_takeByte 2 = .ok (.getfield 38, 3) := by decide +kernel
theorem dS_takeByte_5 : decode cS_takeByte 5 = .ok (.iload_n 1, 1) := by decide +kernel
theorem dS_takeByte_6 : decode cS_takeByte 6 = .ok (.invokevirtual 88, 3) := by decide +kernel
theorem dS_takeByte_9 : decode cS_takeByte 9 = .ok (.aload_n 0, 1) := by decide +kernel
theorem dS_takeByte_10 : decode cS_takeByte 10 = .ok (.dup, 1) := by decide +kernel
theorem dS_takeByte_11 : decode cS_takeByte 11 = .ok (.getfield 38, 3) := by decide +kernel
theorem dS_takeByte_14 : decode cS_takeByte 14 = .ok (.iconst 1, 1) := by decide +kernel
theorem dS_takeByte_15 : decode cS_takeByte 15 = .ok (.iadd, 1) := by decide +kernel
theorem dS_takeByte_16 : decode cS_takeByte 16 = .ok (.putfield 38, 3) := by decide +kernel
theorem dS_takeByte_19 : decode cS_takeByte 19 = .ok (.aload_n 0, 1) := by decide +kernel
theorem dS_takeByte_20 : decode cS_takeByte 20 = .ok (.getfield 38, 3) := by decide +kernel
theorem dS_takeByte_23 : decode cS_takeByte 23 = .ok (.aload_n 0, 1) := by decide +kernel
theorem dS_takeByte_24 : decode cS_takeByte 24 = .ok (.getfield 35, 3) := by decide +kernel
theorem dS_takeByte_27 : decode cS_takeByte 27 = .ok (.if_icmp .lt 7, 3) := by decide +kernel
theorem dS_takeByte_30 : decode cS_takeByte 30 = .ok (.aload_n 0, 1) := by decide +kernel
theorem dS_takeByte_31 : decode cS_takeByte 31 = .ok (.invokevirtual 92, 3) := by decide +kernel
theorem dS_takeByte_34 : decode cS_takeByte 34 = .ok (.return_, 1) := by decide +kernel
theorem dS_fillUp_0 : decode cS_fillUp 0 = .ok (.aload_n 0, 1) := by decide +kernel
theorem dS_fillUp_1 : decode cS_fillUp 1 = .ok (.getfield 38, 3) := by decide +kernel
theorem dS_fillUp_4 : decode cS_fillUp 4 = .ok (.ifCond .le 7, 3) := by decide +kernel
theorem dS_fillUp_7 : decode cS_fillUp 7 = .ok (.aload_n 0, 1) := by decide +kernel
theorem dS_fillUp_8 : decode cS_fillUp 8 = .ok (.invokevirtual 92, 3) := by decide +kernel
theorem dS_fillUp_11 : decode cS_fillUp 11 = .ok (.return_, 1) := by decide +kernel
theorem dS_mix_0 : decode cS_mix 0 = .ok (.aload_n 0, 1) := by decide +kernel
theorem dS_mix_1 : decode cS_mix 1 = .ok (.getfield 11, 3) := by decide +kernel
theorem dS_mix_4 : decode cS_mix 4 = .ok (.iload_n 1, 1) := by decide +kernel
theorem dS_mix_5 : decode cS_mix 5 = .ok (.iconst 3, 1) := by decide +kernel
theorem dS_mix_6 : decode cS_mix 6 = .ok (.iushr, 1) := by decide +kernel
theorem dS_mix_7 : decode cS_mix 7 = .ok (.dup2, 1) := by decide +kernel
theorem dS_mix_8 : decode cS_mix 8 = .ok (.laload, 1) := by decide +kernel
theorem dS_mix_9 : decode cS_mix 9 = .ok (.iload_n 2, 1) := by decide +kernel
theorem dS_mix_10 : decode cS_mix 10 = .ok (.i2l, 1) := by decide +kernel
theorem dS_mix_11 : decode cS_mix 11 = .ok (.ldc2_w 99, 3) := by decide +kernel
theorem dS_mix_14 : decode cS_mix 14 = .ok (.land, 1) := by decide +kernel
theorem dS_mix_15 : decode cS_mix 15 = .ok (.bipush 8, 2) := by decide +kernel
theorem dS_mix_17 : decode cS_mix 17 = .ok (.iload_n 1, 1) := by decide +kernel
theorem dS_mix_18 : decode cS_mix 18 = .ok (.bipush 7, 2) := by decide +kernel
theorem dS_mix_20 : decode cS_mix 20 = .ok (.iand, 1) := by decide +kernel
theorem dS_mix_21 : decode cS_mix 21 = .ok (.imul, 1) := by decide +kernel
theorem dS_mix_22 : decode cS_mix 22 = .ok (.lshl, 1) := by decide +kernel
theorem dS_mix_23 : decode cS_mix 23 = .ok (.lxor, 1) := by decide +kernel
theorem dS_mix_24 : decode cS_mix 24 = .ok (.lastore, 1) := by decide +kernel
theorem dS_mix_25 : decode cS_mix 25 = .ok (.return_, 1) := by decide +kernel
theorem dS_permute_0 : decode cS_permute 0 = .ok (.iconst 0, 1) := by decide +kernel
theorem dS_permute_1 : decode cS_permute 1 = .ok (.istore_n 1, 1) := by decide +kernel
theorem dS_permute_2 : decode cS_permute 2 = .ok (.iload_n 1, 1) := by decide +kernel
theorem dS_permute_3 : decode cS_permute 3 = .ok (.bipush 24, 2) := by decide +kernel
theorem dS_permute_5 : decode cS_permute 5 = .ok (.if_icmp .ge 44, 3) := by decide +kernel
theorem dS_permute_8 : decode cS_permute 8 = .ok (.aload_n 0, 1) := by decide +kernel
theorem dS_permute_9 : decode cS_permute 9 = .ok (.getfield 11, 3) := by decide +kernel
theorem dS_permute_12 : decode cS_permute 12 = .ok (.invokestatic 105, 3) := by decide +kernel
theorem dS_permute_15 : decode cS_permute 15 = .ok (.aload_n 0, 1) := by decide +kernel
theorem dS_permute_16 : decode cS_permute 16 = .ok (.getfield 11, 3) := by decide +kernel
theorem dS_permute_19 : decode cS_permute 19 = .ok (.invokestatic 109, 3) := by decide +kernel
theorem dS_permute_22 : decode cS_permute 22 = .ok (.aload_n 0, 1) := by decide +kernel
theorem dS_permute_23 : decode cS_permute 23 = .ok (.getfield 11, 3) := by decide +kernel
theorem dS_permute_26 : decode cS_permute 26 = .ok (.invokestatic 112, 3) := by decide +kernel
theorem dS_permute_29 : decode cS_permute 29 = .ok (.aload_n 0, 1) := by decide +kernel
theorem dS_permute_30 : decode cS_permute 30 = .ok (.getfield 11, 3) := by decide +kernel
theorem dS_permute_33 : decode cS_permute 33 = .ok (.iconst 0, 1) := by decide +kernel
theorem dS_permute_34 : decode cS_permute 34 = .ok (.dup2, 1) := by decide +kernel
theorem dS_permute_35 : decode cS_permute 35 = .ok (.laload, 1) := by decide +kernel
theorem dS_permute_36 : decode cS_permute 36 = .ok (.getstatic 115, 3) := by decide +kernel
theorem dS_permute_39 : decode cS_permute 39 = .ok (.iload_n 1, 1) := by decide +kernel
theorem dS_permute_40 : decode cS_permute 40 = .ok (.laload, 1) := by decide +kernel
theorem dS_permute_41 : decode cS_permute 41 = .ok (.lxor, 1) := by decide +kernel
theorem dS_permute_42 : decode cS_permute 42 = .ok (.lastore, 1) := by decide +kernel
theorem dS_permute_43 : decode cS_permute 43 = .ok (.iinc 1 1, 3) := by decide +kernel
theorem dS_permute_46 : decode cS_permute 46 = .ok (.goto (-44), 3) := by decide +kernel
theorem dS_permute_49 : decode cS_permute 49 = .ok (.aload_n 0, 1) := by decide +kernel
theorem dS_permute_50 : decode cS_permute 50 = .ok (.iconst 0, 1) := by decide +kernel
theorem dS_permute_51 : decode cS_permute 51 = .ok (.putfield 38, 3) := by decide +kernel
theorem dS_permute_54 : decode cS_permute 54 = .ok (.return_, 1) := by decide +kernel
