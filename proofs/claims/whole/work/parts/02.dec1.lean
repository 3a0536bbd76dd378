theorem dX0_init_0 : decode cX0_init 0 = .ok (.aload_n 0, 1) := by decide +kernel
theorem dX0_init_1 : decode cX0_init 1 = .ok (.invokespecial 3, 3) := by decide +kernel
theorem dX0_init_4 : decode cX0_init 4 = .ok (.aload_n 0, 1) := by decide +kernel
theorem dX0_init_5 : decode cX0_init 5 = .ok (.bipush 40, 2) := by decide +kernel
theorem dX0_init_7 : decode cX0_init 7 = .ok (.newarray .int, 2) := by decide +kernel
theorem dX0_init_9 : decode cX0_init 9 = .ok (.putfield 9, 3) := by decide +kernel
theorem dX0_init_12 : decode cX0_init 12 = .ok (.aload_n 0, 1) := by decide +kernel
theorem dX0_init_13 : decode cX0_init 13 = .ok (.bipush 40, 2) := by decide +kernel
theorem dX0_init_15 : decode cX0_init 15 = .ok (.newarray .int, 2) := by decide +kernel
theorem dX0_init_17 : decode cX0_init 17 = .ok (.putfield 15, 3) := by decide +kernel
theorem dX0_init_20 : decode cX0_init 20 = .ok (.aload_n 0, 1) := by decide +kernel
theorem dX0_init_21 : decode cX0_init 21 = .ok (.bipush 40, 2) := by decide +kernel
theorem dX0_init_23 : decode cX0_init 23 = .ok (.newarray .int, 2) := by decide +kernel
theorem dX0_init_25 : decode cX0_init 25 = .ok (.putfield 18, 3) := by decide +kernel
theorem dX0_init_28 : decode cX0_init 28 = .ok (.aload_n 0, 1) := by decide +kernel
theorem dX0_init_29 : decode cX0_init 29 = .ok (.iconst 0, 1) := by decide +kernel
theorem dX0_init_30 : decode cX0_init 30 = .ok (.putfield 21, 3) := by decide +kernel
theorem dX0_init_33 : decode cX0_init 33 = .ok (.aload_n 0, 1) := by decide +kernel
theorem dX0_init_34 : decode cX0_init 34 = .ok (.iconst (-1), 1) := by decide +kernel
theorem dX0_init_35 : decode cX0_init 35 = .ok (.putfield 25, 3) := by decide +kernel
theorem dX0_init_38 : decode cX0_init 38 = .ok (.aload_n 0, 1) := by decide +kernel
theorem dX0_init_39 : decode cX0_init 39 = .ok (.iconst (-1), 1) := by decide +kernel
theorem dX0_init_40 : decode cX0_init 40 = .ok (.putfield 28, 3) := by decide +kernel
theorem dX0_init_43 : decode cX0_init 43 = .ok (.return_, 1) := by decide +kernel
theorem dX0_clear_0 : decode cX0_clear 0 = .ok (.aload_n 0, 1) := by decide +kernel
theorem dX0_clear_1 : decode cX0_clear 1 = .ok (.iconst 0, 1) := by decide +kernel
theorem dX0_clear_2 : decode cX0_clear 2 = .ok (.putfield 21, 3) := by decide +kernel
theorem dX0_clear_5 : decode cX0_clear 5 = .ok (.return_, 1) := by decide +kernel
theorem dX0_play_0 : decode cX0_play 0 = .ok (.aload_n 2, 1) := by decide +kernel
theorem dX0_play_1 : decode cX0_play 1 = .ok (.aload_n 1, 1) := by decide +kernel
theorem dX0_play_2 : decode cX0_play 2 = .ok (.invokevirtual 31, 3) := by decide +kernel
theorem dX0_play_5 : decode cX0_play 5 = .ok (.aload_n 0, 1) := by decide +kernel
theorem dX0_play_6 : decode cX0_play 6 = .ok (.iconst (-1), 1) := by decide +kernel
theorem dX0_play_7 : decode cX0_play 7 = .ok (.putfield 25, 3) := by decide +kernel
theorem dX0_play_10 : decode cX0_play 10 = .ok (.aload_n 0, 1) := by decide +kernel
theorem dX0_play_11 : decode cX0_play 11 = .ok (.iconst (-1), 1) := by decide +kernel
theorem dX0_play_12 : decode cX0_play 12 = .ok (.putfield 28, 3) := by decide +kernel
theorem dX0_play_15 : decode cX0_play 15 = .ok (.iconst 0, 1) := by decide +kernel
theorem dX0_play_16 : decode cX0_play 16 = .ok (.istore_n 3, 1) := by decide +kernel
theorem dX0_play_17 : decode cX0_play 17 = .ok (.iload_n 3, 1) := by decide +kernel
theorem dX0_play_18 : decode cX0_play 18 = .ok (.aload_n 0, 1) := by decide +kernel
theorem dX0_play_19 : decode cX0_play 19 = .ok (.getfield 21, 3) := by decide +kernel
theorem dX0_play_22 : decode cX0_play 22 = .ok (.if_icmp .ge 83, 3) := by decide +kernel
theorem dX0_play_25 : decode cX0_play 25 = .ok (.aload_n 0, 1) := by decide +kernel
theorem dX0_play_26 : decode cX0_play 26 = .ok (.getfield 9, 3) := by decide +kernel
theorem dX0_play_29 : decode cX0_play 29 = .ok (.iload_n 3, 1) := by decide +kernel
theorem dX0_play_30 : decode cX0_play 30 = .ok (.iaload, 1) := by decide +kernel
theorem dX0_play_31 : decode cX0_play 31 = .ok (.bipush 6, 2) := by decide +kernel
theorem dX0_play_33 : decode cX0_play 33 = .ok (.if_icmp .ne 43, 3) := by decide +kernel
theorem dX0_play_36 : decode cX0_play 36 = .ok (.aload_n 2, 1) := by decide +kernel
theorem dX0_play_37 : decode cX0_play 37 = .ok (.aload_n 1, 1) := by decide +kernel
theorem dX0_play_38 : decode cX0_play 38 = .ok (.aload_n 0, 1) := by decide +kernel
theorem dX0_play_39 : decode cX0_play 39 = .ok (.getfield 15, 3) := by decide +kernel
theorem dX0_play_42 : decode cX0_play 42 = .ok (.iload_n 3, 1) := by decide +kernel
theorem dX0_play_43 : decode cX0_play 43 = .ok (.iaload, 1) := by decide +kernel
theorem dX0_play_44 : decode cX0_play 44 = .ok (.aload_n 0, 1) := by decide +kernel
theorem dX0_play_45 : decode cX0_play 45 = .ok (.getfield 18, 3) := by decide +kernel
theorem dX0_play_48 : decode cX0_play 48 = .ok (.iload_n 3, 1) := by decide +kernel
theorem dX0_play_49 : decode cX0_play 49 = .ok (.iaload, 1) := by decide +kernel
theorem dX0_play_50 : decode cX0_play 50 = .ok (.invokevirtual 39, 3) := by decide +kernel
theorem dX0_play_53 : decode cX0_play 53 = .ok (.istore 4, 2) := by decide +kernel
theorem dX0_play_55 : decode cX0_play 55 = .ok (.iload 4, 2) := by decide +kernel
theorem dX0_play_57 : decode cX0_play 57 = .ok (.ifCond .ne 16, 3) := by decide +kernel
theorem dX0_play_60 : decode cX0_play 60 = .ok (.aload_n 0, 1) := by decide +kernel
theorem dX0_play_61 : decode cX0_play 61 = .ok (.getfield 28, 3) := by decide +kernel
theorem dX0_play_64 : decode cX0_play 64 = .ok (.iconst (-1), 1) := by decide +kernel
theorem dX0_play_65 : decode cX0_play 65 = .ok (.if_icmp .ne 8, 3) := by decide +kernel
theorem dX0_play_68 : decode cX0_play 68 = .ok (.aload_n 0, 1) := by decide +kernel
theorem dX0_play_69 : decode cX0_play 69 = .ok (.iload_n 3, 1) := by decide +kernel
theorem dX0_play_70 : decode cX0_play 70 = .ok (.putfield 28, 3) := by decide +kernel
theorem dX0_play_73 : decode cX0_play 73 = .ok (.goto 26, 3) := by decide +kernel
theorem dX0_play_76 : decode cX0_play 76 = .ok (.aload_n 0, 1) := by decide +kernel
theorem dX0_play_77 : decode cX0_play 77 = .ok (.aload_n 1, 1) := by decide +kernel
theorem dX0_play_78 : decode cX0_play 78 = .ok (.aload_n 2, 1) := by decide +kernel
theorem dX0_play_79 : decode cX0_play 79 = .ok (.iload_n 3, 1) := by decide +kernel
theorem dX0_play_80 : decode cX0_play 80 = .ok (.invokevirtual 43, 3) := by decide +kernel
theorem dX0_play_83 : decode cX0_play 83 = .ok (.ifCond .ne 16, 3) := by decide +kernel
theorem dX0_play_86 : decode cX0_play 86 = .ok (.aload_n 0, 1) := by decide +kernel
theorem dX0_play_87 : decode cX0_play 87 = .ok (.getfield 25, 3) := by decide +kernel
theorem dX0_play_90 : decode cX0_play 90 = .ok (.iconst (-1), 1) := by decide +kernel
theorem dX0_play_91 : decode cX0_play 91 = .ok (.if_icmp .ne 8, 3) := by decide +kernel
theorem dX0_play_94 : decode cX0_play 94 = .ok (.aload_n 0, 1) := by decide +kernel
theorem dX0_play_95 : decode cX0_play 95 = .ok (.iload_n 3, 1) := by decide +kernel
theorem dX0_play_96 : decode cX0_play 96 = .ok (.putfield 25, 3) := by decide +kernel
theorem dX0_play_99 : decode cX0_play 99 = .ok (.iinc 3 1, 3) := by decide +kernel
theorem dX0_play_102 : decode cX0_play 102 = .ok (.goto (-85), 3) := by decide +kernel
theorem dX0_play_105 : decode cX0_play 105 = .ok (.return_, 1) := by decide +kernel
theorem dX0_isPlayed_0 : decode cX0_isPlayed 0 = .ok (.aload_n 0, 1) := by decide +kernel
theorem dX0_isPlayed_1 : decode cX0_isPlayed 1 = .ok (.getfield 15, 3) := by decide +kernel
theorem dX0_isPlayed_4 : decode cX0_isPlayed 4 = .ok (.iload_n 3, 1) := by decide +kernel
theorem dX0_isPlayed_5 : decode cX0_isPlayed 5 = .ok (.iaload, 1) := by decide +kernel
theorem dX0_isPlayed_6 : decode cX0_isPlayed 6 = .ok (.istore 4, 2) := by decide +kernel
theorem dX0_isPlayed_8 : decode cX0_isPlayed 8 = .ok (.aload_n 0, 1) := by decide +kernel
theorem dX0_isPlayed_9 : decode cX0_isPlayed 9 = .ok (.getfield 9, 3) := by decide +kernel
theorem dX0_isPlayed_12 : decode cX0_isPlayed 12 = .ok (.iload_n 3, 1) := by decide +kernel
theorem dX0_isPlayed_13 : decode cX0_isPlayed 13 = .ok (.iaload, 1) := by decide +kernel
theorem dX0_isPlayed_14 : decode cX0_isPlayed 14 = .ok (.tableswitch 68 5 9 #[34, 68, 47, 54, 61], 34) := by decide +kernel
theorem dX0_isPlayed_48 : decode cX0_isPlayed 48 = .ok (.aload_n 2, 1) := by decide +kernel
theorem dX0_isPlayed_49 : decode cX0_isPlayed 49 = .ok (.iload 4, 2) := by decide +kernel
theorem dX0_isPlayed_51 : decode cX0_isPlayed 51 = .ok (.aload_n 0, 1) := by decide +kernel
theorem dX0_isPlayed_52 : decode cX0_isPlayed 52 = .ok (.getfield 18, 3) := by decide +kernel
theorem dX0_isPlayed_55 : decode cX0_isPlayed 55 = .ok (.iload_n 3, 1) := by decide +kernel
theorem dX0_isPlayed_56 : decode cX0_isPlayed 56 = .ok (.iaload, 1) := by decide +kernel
theorem dX0_isPlayed_57 : decode cX0_isPlayed 57 = .ok (.invokevirtual 47, 3) := by decide +kernel
theorem dX0_isPlayed_60 : decode cX0_isPlayed 60 = .ok (.ireturn, 1) := by decide +kernel
theorem dX0_isPlayed_61 : decode cX0_isPlayed 61 = .ok (.aload_n 2, 1) := by decide +kernel
theorem dX0_isPlayed_62 : decode cX0_isPlayed 62 = .ok (.iload 4, 2) := by decide +kernel
theorem dX0_isPlayed_64 : decode cX0_isPlayed 64 = .ok (.invokevirtual 51, 3) := by decide +kernel
theorem dX0_isPlayed_67 : decode cX0_isPlayed 67 = .ok (.ireturn, 1) := by decide +kernel
theorem dX0_isPlayed_68 : decode cX0_isPlayed 68 = .ok (.aload_n 2, 1) := by decide +kernel
theorem dX0_isPlayed_69 : decode cX0_isPlayed 69 = .ok (.iload 4, 2) := by decide +kernel
theorem dX0_isPlayed_71 : decode cX0_isPlayed 71 = .ok (.invokevirtual 55, 3) := by decide +kernel
theorem dX0_isPlayed_74 : decode cX0_isPlayed 74 = .ok (.ireturn, 1) := by decide +kernel
theorem dX0_isPlayed_75 : decode cX0_isPlayed 75 = .ok (.aload_n 2, 1) := by decide +kernel
theorem dX0_isPlayed_76 : decode cX0_isPlayed 76 = .ok (.iload 4, 2) := by decide +kernel
theorem dX0_isPlayed_78 : decode cX0_isPlayed 78 = .ok (.invokevirtual 58, 3) := by decide +kernel
theorem dX0_isPlayed_81 : decode cX0_isPlayed 81 = .ok (.ireturn, 1) := by decide +kernel
theorem dX0_isPlayed_82 : decode cX0_isPlayed 82 = .ok (.aload_n 2, 1) := by decide +kernel
theorem dX0_isPlayed_83 : decode cX0_isPlayed 83 = .ok (.aload_n 1, 1) := by decide +kernel
theorem dX0_isPlayed_84 : decode cX0_isPlayed 84 = .ok (.invokevirtual 61, 3) := by decide +kernel
theorem dX0_isPlayed_87 : decode cX0_isPlayed 87 = .ok (.pop, 1) := by decide +kernel
theorem dX0_isPlayed_88 : decode cX0_isPlayed 88 = .ok (.iconst 1, 1) := by decide +kernel
theorem dX0_isPlayed_89 : decode cX0_isPlayed 89 = .ok (.ireturn, 1) := by decide +kernel
theorem dX1_reads_0 : decode cX1_reads 0 = .ok (.aload_n 2, 1) := by decide +kernel
theorem dX1_reads_1 : decode cX1_reads 1 = .ok (.invokevirtual 9, 3) := by decide +kernel
theorem dX1_reads_4 : decode cX1_reads 4 = .ok (.aload_n 0, 1) := by decide +kernel
theorem dX1_reads_5 : decode cX1_reads 5 = .ok (.invokevirtual 14, 3) := by decide +kernel
theorem dX1_reads_8 : decode cX1_reads 8 = .ok (.iconst 0, 1) := by decide +kernel
theorem dX1_reads_9 : decode cX1_reads 9 = .ok (.istore_n 3, 1) := by decide +kernel
theorem dX1_reads_10 : decode cX1_reads 10 = .ok (.iload_n 3, 1) := by decide +kernel
theorem dX1_reads_11 : decode cX1_reads 11 = .ok (.sipush 1000, 3) := by decide +kernel
theorem dX1_reads_14 : decode cX1_reads 14 = .ok (.if_icmp .ge 36, 3) := by decide +kernel
theorem dX1_reads_17 : decode cX1_reads 17 = .ok (.aload_n 0, 1) := by decide +kernel
theorem dX1_reads_18 : decode cX1_reads 18 = .ok (.invokevirtual 19, 3) := by decide +kernel
theorem dX1_reads_21 : decode cX1_reads 21 = .ok (.ifCond .ne 29, 3) := by decide +kernel
theorem dX1_reads_24 : decode cX1_reads 24 = .ok (.aload_n 0, 1) := by decide +kernel
theorem dX1_reads_25 : decode cX1_reads 25 = .ok (.aload_n 1, 1) := by decide +kernel
theorem dX1_reads_26 : decode cX1_reads 26 = .ok (.aload_n 2, 1) := by decide +kernel
theorem dX1_reads_27 : decode cX1_reads 27 = .ok (.invokestatic 23, 3) := by decide +kernel
theorem dX1_reads_30 : decode cX1_reads 30 = .ok (.ifCond .eq 12, 3) := by decide +kernel
theorem dX1_reads_33 : decode cX1_reads 33 = .ok (.aload_n 0, 1) := by decide +kernel
theorem dX1_reads_34 : decode cX1_reads 34 = .ok (.bipush 59, 2) := by decide +kernel
theorem dX1_reads_36 : decode cX1_reads 36 = .ok (.invokevirtual 29, 3) := by decide +kernel
theorem dX1_reads_39 : decode cX1_reads 39 = .ok (.ifCond .ne 5, 3) := by decide +kernel
theorem dX1_reads_42 : decode cX1_reads 42 = .ok (.iconst 0, 1) := by decide +kernel
theorem dX1_reads_43 : decode cX1_reads 43 = .ok (.ireturn, 1) := by decide +kernel
theorem dX1_reads_44 : decode cX1_reads 44 = .ok (.iinc 3 1, 3) := by decide +kernel
theorem dX1_reads_47 : decode cX1_reads 47 = .ok (.goto (-37), 3) := by decide +kernel
theorem dX1_reads_50 : decode cX1_reads 50 = .ok (.iconst 1, 1) := by decide +kernel
theorem dX1_reads_51 : decode cX1_reads 51 = .ok (.ireturn, 1) := by decide +kernel
theorem dX1_readsLine_0 : decode cX1_readsLine 0 = .ok (.aload_n 0, 1) := by decide +kernel
theorem dX1_readsLine_1 : decode cX1_readsLine 1 = .ok (.getfield 33, 3) := by decide +kernel
theorem dX1_readsLine_4 : decode cX1_readsLine 4 = .ok (.istore_n 3, 1) := by decide +kernel
theorem dX1_readsLine_5 : decode cX1_readsLine 5 = .ok (.iload_n 3, 1) := by decide +kernel
theorem dX1_readsLine_6 : decode cX1_readsLine 6 = .ok (.iconst 5, 1) := by decide +kernel
theorem dX1_readsLine_7 : decode cX1_readsLine 7 = .ok (.if_icmp .lt 9, 3) := by decide +kernel
theorem dX1_readsLine_10 : decode cX1_readsLine 10 = .ok (.iload_n 3, 1) := by decide +kernel
theorem dX1_readsLine_11 : decode cX1_readsLine 11 = .ok (.bipush 10, 2) := by decide +kernel
theorem dX1_readsLine_13 : decode cX1_readsLine 13 = .ok (.if_icmp .le 9, 3) := by decide +kernel
theorem dX1_readsLine_16 : decode cX1_readsLine 16 = .ok (.aload_n 0, 1) := by decide +kernel
theorem dX1_readsLine_17 : decode cX1_readsLine 17 = .ok (.iconst 1, 1) := by decide +kernel
theorem dX1_readsLine_18 : decode cX1_readsLine 18 = .ok (.invokevirtual 37, 3) := by decide +kernel
theorem dX1_readsLine_21 : decode cX1_readsLine 21 = .ok (.ireturn, 1) := by decide +kernel
theorem dX1_readsLine_22 : decode cX1_readsLine 22 = .ok (.aload_n 2, 1) := by decide +kernel
theorem dX1_readsLine_23 : decode cX1_readsLine 23 = .ok (.getfield 41, 3) := by decide +kernel
theorem dX1_readsLine_26 : decode cX1_readsLine 26 = .ok (.istore 4, 2) := by decide +kernel
theorem dX1_readsLine_28 : decode cX1_readsLine 28 = .ok (.iload 4, 2) := by decide +kernel
theorem dX1_readsLine_30 : decode cX1_readsLine 30 = .ok (.bipush 40, 2) := by decide +kernel
theorem dX1_readsLine_32 : decode cX1_readsLine 32 = .ok (.if_icmp .lt 9, 3) := by decide +kernel
theorem dX1_readsLine_35 : decode cX1_readsLine 35 = .ok (.aload_n 0, 1) := by decide +kernel
theorem dX1_readsLine_36 : decode cX1_readsLine 36 = .ok (.iconst 5, 1) := by decide +kernel
theorem dX1_readsLine_37 : decode cX1_readsLine 37 = .ok (.invokevirtual 37, 3) := by decide +kernel
theorem dX1_readsLine_40 : decode cX1_readsLine 40 = .ok (.ireturn, 1) := by decide +kernel
theorem dX1_readsLine_41 : decode cX1_readsLine 41 = .ok (.aload_n 0, 1) := by decide +kernel
theorem dX1_readsLine_42 : decode cX1_readsLine 42 = .ok (.invokevirtual 44, 3) := by decide +kernel
theorem dX1_readsLine_45 : decode cX1_readsLine 45 = .ok (.aload_n 2, 1) := by decide +kernel
theorem dX1_readsLine_46 : decode cX1_readsLine 46 = .ok (.getfield 47, 3) := by decide +kernel
theorem dX1_readsLine_49 : decode cX1_readsLine 49 = .ok (.iload 4, 2) := by decide +kernel
theorem dX1_readsLine_51 : decode cX1_readsLine 51 = .ok (.iload_n 3, 1) := by decide +kernel
theorem dX1_readsLine_52 : decode cX1_readsLine 52 = .ok (.iastore, 1) := by decide +kernel
theorem dX1_readsLine_53 : decode cX1_readsLine 53 = .ok (.aload_n 2, 1) := by decide +kernel
theorem dX1_readsLine_54 : decode cX1_readsLine 54 = .ok (.dup, 1) := by decide +kernel
theorem dX1_readsLine_55 : decode cX1_readsLine 55 = .ok (.getfield 41, 3) := by decide +kernel
theorem dX1_readsLine_58 : decode cX1_readsLine 58 = .ok (.iconst 1, 1) := by decide +kernel
theorem dX1_readsLine_59 : decode cX1_readsLine 59 = .ok (.iadd, 1) := by decide +kernel
theorem dX1_readsLine_60 : decode cX1_readsLine 60 = .ok (.putfield 41, 3) := by decide +kernel
theorem dX1_readsLine_63 : decode cX1_readsLine 63 = .ok (.iload_n 3, 1) := by decide +kernel
theorem dX1_readsLine_64 : decode cX1_readsLine 64 = .ok (.lookupswitch 123 #[(5, 36), (6, 73), (10, 121)], 36) := by decide +kernel
theorem dX1_readsLine_100 : decode cX1_readsLine 100 = .ok (.aload_n 0, 1) := by decide +kernel
theorem dX1_readsLine_101 : decode cX1_readsLine 101 = .ok (.aload_n 1, 1) := by decide +kernel
theorem dX1_readsLine_102 : decode cX1_readsLine 102 = .ok (.getfield 51, 3) := by decide +kernel
theorem dX1_readsLine_105 : decode cX1_readsLine 105 = .ok (.aload_n 1, 1) := by decide +kernel
theorem dX1_readsLine_106 : decode cX1_readsLine 106 = .ok (.getfield 57, 3) := by decide +kernel
theorem dX1_readsLine_109 : decode cX1_readsLine 109 = .ok (.aload_n 2, 1) := by decide +kernel
theorem dX1_readsLine_110 : decode cX1_readsLine 110 = .ok (.getfield 60, 3) := by decide +kernel
theorem dX1_readsLine_113 : decode cX1_readsLine 113 = .ok (.iload 4, 2) := by decide +kernel
theorem dX1_readsLine_115 : decode cX1_readsLine 115 = .ok (.invokestatic 63, 3) := by decide +kernel
theorem dX1_readsLine_118 : decode cX1_readsLine 118 = .ok (.ifCond .eq 17, 3) := by decide +kernel
theorem dX1_readsLine_121 : decode cX1_readsLine 121 = .ok (.aload_n 0, 1) := by decide +kernel
theorem dX1_readsLine_122 : decode cX1_readsLine 122 = .ok (.aload_n 2, 1) := by decide +kernel
theorem dX1_readsLine_123 : decode cX1_readsLine 123 = .ok (.iload 4, 2) := by decide +kernel
theorem dX1_readsLine_125 : decode cX1_readsLine 125 = .ok (.invokestatic 67, 3) := by decide +kernel
theorem dX1_readsLine_128 : decode cX1_readsLine 128 = .ok (.ifCond .eq 7, 3) := by decide +kernel
theorem dX1_readsLine_131 : decode cX1_readsLine 131 = .ok (.iconst 1, 1) := by decide +kernel
theorem dX1_readsLine_132 : decode cX1_readsLine 132 = .ok (.goto 4, 3) := by decide +kernel
theorem dX1_readsLine_135 : decode cX1_readsLine 135 = .ok (.iconst 0, 1) := by decide +kernel
theorem dX1_readsLine_136 : decode cX1_readsLine 136 = .ok (.ireturn, 1) := by decide +kernel
theorem dX1_readsLine_137 : decode cX1_readsLine 137 = .ok (.aload_n 0, 1) := by decide +kernel
theorem dX1_readsLine_138 : decode cX1_readsLine 138 = .ok (.aload_n 1, 1) := by decide +kernel
theorem dX1_readsLine_139 : decode cX1_readsLine 139 = .ok (.getfield 51, 3) := by decide +kernel
theorem dX1_readsLine_142 : decode cX1_readsLine 142 = .ok (.aload_n 1, 1) := by decide +kernel
theorem dX1_readsLine_143 : decode cX1_readsLine 143 = .ok (.getfield 57, 3) := by decide +kernel
theorem dX1_readsLine_146 : decode cX1_readsLine 146 = .ok (.aload_n 2, 1) := by decide +kernel
theorem dX1_readsLine_147 : decode cX1_readsLine 147 = .ok (.getfield 60, 3) := by decide +kernel
theorem dX1_readsLine_150 : decode cX1_readsLine 150 = .ok (.iload 4, 2) := by decide +kernel
theorem dX1_readsLine_152 : decode cX1_readsLine 152 = .ok (.invokestatic 63, 3) := by decide +kernel
theorem dX1_readsLine_155 : decode cX1_readsLine 155 = .ok (.ifCond .eq 28, 3) := by decide +kernel
theorem dX1_readsLine_158 : decode cX1_readsLine 158 = .ok (.aload_n 0, 1) := by decide +kernel
theorem dX1_readsLine_159 : decode cX1_readsLine 159 = .ok (.aload_n 1, 1) := by decide +kernel
theorem dX1_readsLine_160 : decode cX1_readsLine 160 = .ok (.getfield 71, 3) := by decide +kernel
theorem dX1_readsLine_163 : decode cX1_readsLine 163 = .ok (.aload_n 1, 1) := by decide +kernel
theorem dX1_readsLine_164 : decode cX1_readsLine 164 = .ok (.getfield 74, 3) := by decide +kernel
theorem dX1_readsLine_167 : decode cX1_readsLine 167 = .ok (.aload_n 2, 1) := by decide +kernel
theorem dX1_readsLine_168 : decode cX1_readsLine 168 = .ok (.getfield 77, 3) := by decide +kernel
theorem dX1_readsLine_171 : decode cX1_readsLine 171 = .ok (.iload 4, 2) := by decide +kernel
theorem dX1_readsLine_173 : decode cX1_readsLine 173 = .ok (.invokestatic 63, 3) := by decide +kernel
theorem dX1_readsLine_176 : decode cX1_readsLine 176 = .ok (.ifCond .eq 7, 3) := by decide +kernel
theorem dX1_readsLine_179 : decode cX1_readsLine 179 = .ok (.iconst 1, 1) := by decide +kernel
theorem dX1_readsLine_180 : decode cX1_readsLine 180 = .ok (.goto 4, 3) := by decide +kernel
theorem dX1_readsLine_183 : decode cX1_readsLine 183 = .ok (.iconst 0, 1) := by decide +kernel
theorem dX1_readsLine_184 : decode cX1_readsLine 184 = .ok (.ireturn, 1) := by decide +kernel
theorem dX1_readsLine_185 : decode cX1_readsLine 185 = .ok (.iconst 1, 1) := by decide +kernel
theorem dX1_readsLine_186 : decode cX1_readsLine 186 = .ok (.ireturn, 1) := by decide +kernel
theorem dX1_readsLine_187 : decode cX1_readsLine 187 = .ok (.aload_n 0, 1) := by decide +kernel
theorem dX1_readsLine_188 : decode cX1_readsLine 188 = .ok (.aload_n 1, 1) := by decide +kernel
theorem dX1_readsLine_189 : decode cX1_readsLine 189 = .ok (.getfield 80, 3) := by decide +kernel
theorem dX1_readsLine_192 : decode cX1_readsLine 192 = .ok (.aload_n 1, 1) := by decide +kernel
theorem dX1_readsLine_193 : decode cX1_readsLine 193 = .ok (.getfield 83, 3) := by decide +kernel
theorem dX1_readsLine_196 : decode cX1_readsLine 196 = .ok (.aload_n 2, 1) := by decide +kernel
theorem dX1_readsLine_197 : decode cX1_readsLine 197 = .ok (.getfield 60, 3) := by decide +kernel
theorem dX1_readsLine_200 : decode cX1_readsLine 200 = .ok (.iload 4, 2) := by decide +kernel
theorem dX1_readsLine_202 : decode cX1_readsLine 202 = .ok (.invokestatic 63, 3) := by decide +kernel
theorem dX1_readsLine_205 : decode cX1_readsLine 205 = .ok (.ireturn, 1) := by decide +kernel
theorem dX1_readsNames_0 : decode cX1_readsNames 0 = .ok (.aload_n 0, 1) := by decide +kernel
theorem dX1_readsNames_1 : decode cX1_readsNames 1 = .ok (.invokevirtual 86, 3) := by decide +kernel
theorem dX1_readsNames_4 : decode cX1_readsNames 4 = .ok (.ifCond .ne 9, 3) := by decide +kernel
theorem dX1_readsNames_7 : decode cX1_readsNames 7 = .ok (.aload_n 0, 1) := by decide +kernel
theorem dX1_readsNames_8 : decode cX1_readsNames 8 = .ok (.iconst 1, 1) := by decide +kernel
theorem dX1_readsNames_9 : decode cX1_readsNames 9 = .ok (.invokevirtual 37, 3) := by decide +kernel
theorem dX1_readsNames_12 : decode cX1_readsNames 12 = .ok (.ireturn, 1) := by decide +kernel
theorem dX1_readsNames_13 : decode cX1_readsNames 13 = .ok (.aload_n 1, 1) := by decide +kernel
theorem dX1_readsNames_14 : decode cX1_readsNames 14 = .ok (.iload_n 2, 1) := by decide +kernel
theorem dX1_readsNames_15 : decode cX1_readsNames 15 = .ok (.aload_n 0, 1) := by decide +kernel
theorem dX1_readsNames_16 : decode cX1_readsNames 16 = .ok (.getfield 89, 3) := by decide +kernel
theorem dX1_readsNames_19 : decode cX1_readsNames 19 = .ok (.invokestatic 93, 3) := by decide +kernel
theorem dX1_readsNames_22 : decode cX1_readsNames 22 = .ok (.istore 5, 2) := by decide +kernel
theorem dX1_readsNames_24 : decode cX1_readsNames 24 = .ok (.iload 5, 2) := by decide +kernel
theorem dX1_readsNames_26 : decode cX1_readsNames 26 = .ok (.iconst (-1), 1) := by decide +kernel
theorem dX1_readsNames_27 : decode cX1_readsNames 27 = .ok (.if_icmp .ne 9, 3) := by decide +kernel
theorem dX1_readsNames_30 : decode cX1_readsNames 30 = .ok (.aload_n 0, 1) := by decide +kernel
theorem dX1_readsNames_31 : decode cX1_readsNames 31 = .ok (.iconst 2, 1) := by decide +kernel
theorem dX1_readsNames_32 : decode cX1_readsNames 32 = .ok (.invokevirtual 37, 3) := by decide +kernel
theorem dX1_readsNames_35 : decode cX1_readsNames 35 = .ok (.ireturn, 1) := by decide +kernel
theorem dX1_readsNames_36 : decode cX1_readsNames 36 = .ok (.aload_n 3, 1) := by decide +kernel
theorem dX1_readsNames_37 : decode cX1_readsNames 37 = .ok (.iload 4, 2) := by decide +kernel
theorem dX1_readsNames_39 : decode cX1_readsNames 39 = .ok (.iload 5, 2) := by decide +kernel
theorem dX1_readsNames_41 : decode cX1_readsNames 41 = .ok (.iastore, 1) := by decide +kernel
theorem dX1_readsNames_42 : decode cX1_readsNames 42 = .ok (.aload_n 0, 1) := by decide +kernel
theorem dX1_readsNames_43 : decode cX1_readsNames 43 = .ok (.invokevirtual 44, 3) := by decide +kernel
theorem dX1_readsNames_46 : decode cX1_readsNames 46 = .ok (.iconst 1, 1) := by decide +kernel
theorem dX1_readsNames_47 : decode cX1_readsNames 47 = .ok (.ireturn, 1) := by decide +kernel
theorem dX1_readsCell_0 : decode cX1_readsCell 0 = .ok (.aload_n 0, 1) := by decide +kernel
theorem dX1_readsCell_1 : decode cX1_readsCell 1 = .ok (.iconst 0, 1) := by decide +kernel
theorem dX1_readsCell_2 : decode cX1_readsCell 2 = .ok (.bipush 9, 2) := by decide +kernel
theorem dX1_readsCell_4 : decode cX1_readsCell 4 = .ok (.invokevirtual 97, 3) := by decide +kernel
theorem dX1_readsCell_7 : decode cX1_readsCell 7 = .ok (.ifCond .ne 5, 3) := by decide +kernel
theorem dX1_readsCell_10 : decode cX1_readsCell 10 = .ok (.iconst 0, 1) := by decide +kernel
theorem dX1_readsCell_11 : decode cX1_readsCell 11 = .ok (.ireturn, 1) := by decide +kernel
theorem dX1_readsCell_12 : decode cX1_readsCell 12 = .ok (.aload_n 1, 1) := by decide +kernel
theorem dX1_readsCell_13 : decode cX1_readsCell 13 = .ok (.getfield 77, 3) := by decide +kernel
theorem dX1_readsCell_16 : decode cX1_readsCell 16 = .ok (.iload_n 2, 1) := by decide +kernel
theorem dX1_readsCell_17 : decode cX1_readsCell 17 = .ok (.aload_n 0, 1) := by decide +kernel
theorem dX1_readsCell_18 : decode cX1_readsCell 18 = .ok (.getfield 101, 3) := by decide +kernel
theorem dX1_readsCell_21 : decode cX1_readsCell 21 = .ok (.iastore, 1) := by decide +kernel
theorem dX1_readsCell_22 : decode cX1_readsCell 22 = .ok (.aload_n 0, 1) := by decide +kernel
theorem dX1_readsCell_23 : decode cX1_readsCell 23 = .ok (.invokevirtual 44, 3) := by decide +kernel
theorem dX1_readsCell_26 : decode cX1_readsCell 26 = .ok (.iconst 1, 1) := by decide +kernel
theorem dX1_readsCell_27 : decode cX1_readsCell 27 = .ok (.ireturn, 1) := by decide +kernel
theorem dX2_init_0 : decode cX2_init 0 = .ok (.aload_n 0, 1) := by decide +kernel
theorem dX2_init_1 : decode cX2_init 1 = .ok (.invokespecial 1, 3) := by decide +kernel
theorem dX2_init_4 : decode cX2_init 4 = .ok (.aload_n 0, 1) := by decide +kernel
theorem dX2_init_5 : decode cX2_init 5 = .ok (.lconst 0, 1) := by decide +kernel
theorem dX2_init_6 : decode cX2_init 6 = .ok (.putfield 7, 3) := by decide +kernel
theorem dX2_init_9 : decode cX2_init 9 = .ok (.aload_n 0, 1) := by decide +kernel
theorem dX2_init_10 : decode cX2_init 10 = .ok (.iconst 0, 1) := by decide +kernel
theorem dX2_init_11 : decode cX2_init 11 = .ok (.putfield 13, 3) := by decide +kernel
theorem dX2_init_14 : decode cX2_init 14 = .ok (.aload_n 0, 1) := by decide +kernel
theorem dX2_init_15 : decode cX2_init 15 = .ok (.iconst 0, 1) := by decide +kernel
theorem dX2_init_16 : decode cX2_init 16 = .ok (.putfield 17, 3) := by decide +kernel
theorem dX2_init_19 : decode cX2_init 19 = .ok (.return_, 1) := by decide +kernel
theorem dX2_play_0 : decode cX2_play 0 = .ok (.aload_n 0, 1) := by decide +kernel
theorem dX2_play_1 : decode cX2_play 1 = .ok (.iload_n 3, 1) := by decide +kernel
theorem dX2_play_2 : decode cX2_play 2 = .ok (.i2l, 1) := by decide +kernel
theorem dX2_play_3 : decode cX2_play 3 = .ok (.putfield 7, 3) := by decide +kernel
theorem dX2_play_6 : decode cX2_play 6 = .ok (.aload_n 0, 1) := by decide +kernel
theorem dX2_play_7 : decode cX2_play 7 = .ok (.iconst 0, 1) := by decide +kernel
theorem dX2_play_8 : decode cX2_play 8 = .ok (.putfield 13, 3) := by decide +kernel
theorem dX2_play_11 : decode cX2_play 11 = .ok (.aload_n 0, 1) := by decide +kernel
theorem dX2_play_12 : decode cX2_play 12 = .ok (.iconst 0, 1) := by decide +kernel
theorem dX2_play_13 : decode cX2_play 13 = .ok (.putfield 17, 3) := by decide +kernel
theorem dX2_play_16 : decode cX2_play 16 = .ok (.iconst 0, 1) := by decide +kernel
theorem dX2_play_17 : decode cX2_play 17 = .ok (.istore 5, 2) := by decide +kernel
theorem dX2_play_19 : decode cX2_play 19 = .ok (.iload 5, 2) := by decide +kernel
theorem dX2_play_21 : decode cX2_play 21 = .ok (.iload 4, 2) := by decide +kernel
theorem dX2_play_23 : decode cX2_play 23 = .ok (.if_icmp .ge 70, 3) := by decide +kernel
theorem dX2_play_26 : decode cX2_play 26 = .ok (.iconst 0, 1) := by decide +kernel
theorem dX2_play_27 : decode cX2_play 27 = .ok (.istore 6, 2) := by decide +kernel
theorem dX2_play_29 : decode cX2_play 29 = .ok (.iload 6, 2) := by decide +kernel
theorem dX2_play_31 : decode cX2_play 31 = .ok (.aload_n 1, 1) := by decide +kernel
theorem dX2_play_32 : decode cX2_play 32 = .ok (.getfield 20, 3) := by decide +kernel
theorem dX2_play_35 : decode cX2_play 35 = .ok (.if_icmp .ge 17, 3) := by decide +kernel
theorem dX2_play_38 : decode cX2_play 38 = .ok (.aload_n 0, 1) := by decide +kernel
theorem dX2_play_39 : decode cX2_play 39 = .ok (.aload_n 1, 1) := by decide +kernel
theorem dX2_play_40 : decode cX2_play 40 = .ok (.aload_n 2, 1) := by decide +kernel
theorem dX2_play_41 : decode cX2_play 41 = .ok (.iload 6, 2) := by decide +kernel
theorem dX2_play_43 : decode cX2_play 43 = .ok (.invokevirtual 25, 3) := by decide +kernel
theorem dX2_play_46 : decode cX2_play 46 = .ok (.iinc 6 1, 3) := by decide +kernel
theorem dX2_play_49 : decode cX2_play 49 = .ok (.goto (-20), 3) := by decide +kernel
theorem dX2_play_52 : decode cX2_play 52 = .ok (.aload_n 1, 1) := by decide +kernel
theorem dX2_play_53 : decode cX2_play 53 = .ok (.getfield 29, 3) := by decide +kernel
theorem dX2_play_56 : decode cX2_play 56 = .ok (.ifCond .le 25, 3) := by decide +kernel
theorem dX2_play_59 : decode cX2_play 59 = .ok (.aload_n 0, 1) := by decide +kernel
theorem dX2_play_60 : decode cX2_play 60 = .ok (.bipush 9, 2) := by decide +kernel
theorem dX2_play_62 : decode cX2_play 62 = .ok (.invokevirtual 32, 3) := by decide +kernel
theorem dX2_play_65 : decode cX2_play 65 = .ok (.ifCond .ne 16, 3) := by decide +kernel
theorem dX2_play_68 : decode cX2_play 68 = .ok (.aload_n 2, 1) := by decide +kernel
theorem dX2_play_69 : decode cX2_play 69 = .ok (.aload_n 0, 1) := by decide +kernel
theorem dX2_play_70 : decode cX2_play 70 = .ok (.aload_n 1, 1) := by decide +kernel
theorem dX2_play_71 : decode cX2_play 71 = .ok (.getfield 29, 3) := by decide +kernel
theorem dX2_play_74 : decode cX2_play 74 = .ok (.invokevirtual 32, 3) := by decide +kernel
theorem dX2_play_77 : decode cX2_play 77 = .ok (.invokevirtual 36, 3) := by decide +kernel
theorem dX2_play_80 : decode cX2_play 80 = .ok (.pop, 1) := by decide +kernel
theorem dX2_play_81 : decode cX2_play 81 = .ok (.aload_n 2, 1) := by decide +kernel
theorem dX2_play_82 : decode cX2_play 82 = .ok (.aload_n 1, 1) := by decide +kernel
theorem dX2_play_83 : decode cX2_play 83 = .ok (.invokevirtual 42, 3) := by decide +kernel
theorem dX2_play_86 : decode cX2_play 86 = .ok (.pop, 1) := by decide +kernel
theorem dX2_play_87 : decode cX2_play 87 = .ok (.iinc 5 1, 3) := by decide +kernel
theorem dX2_play_90 : decode cX2_play 90 = .ok (.goto (-71), 3) := by decide +kernel
theorem dX2_play_93 : decode cX2_play 93 = .ok (.return_, 1) := by decide +kernel
theorem dX2_playPerson_0 : decode cX2_playPerson 0 = .ok (.aload_n 0, 1) := by decide +kernel
theorem dX2_playPerson_1 : decode cX2_playPerson 1 = .ok (.iconst 3, 1) := by decide +kernel
theorem dX2_playPerson_2 : decode cX2_playPerson 2 = .ok (.invokevirtual 32, 3) := by decide +kernel
theorem dX2_playPerson_5 : decode cX2_playPerson 5 = .ok (.istore 4, 2) := by decide +kernel
theorem dX2_playPerson_7 : decode cX2_playPerson 7 = .ok (.iload 4, 2) := by decide +kernel
theorem dX2_playPerson_9 : decode cX2_playPerson 9 = .ok (.iconst 2, 1) := by decide +kernel
theorem dX2_playPerson_10 : decode cX2_playPerson 10 = .ok (.if_icmp .ge 29, 3) := by decide +kernel
theorem dX2_playPerson_13 : decode cX2_playPerson 13 = .ok (.aload_n 2, 1) := by decide +kernel
theorem dX2_playPerson_14 : decode cX2_playPerson 14 = .ok (.iload_n 3, 1) := by decide +kernel
theorem dX2_playPerson_15 : decode cX2_playPerson 15 = .ok (.aload_n 2, 1) := by decide +kernel
theorem dX2_playPerson_16 : decode cX2_playPerson 16 = .ok (.getfield 46, 3) := by decide +kernel
theorem dX2_playPerson_19 : decode cX2_playPerson 19 = .ok (.iload_n 3, 1) := by decide +kernel
theorem dX2_playPerson_20 : decode cX2_playPerson 20 = .ok (.iaload, 1) := by decide +kernel
theorem dX2_playPerson_21 : decode cX2_playPerson 21 = .ok (.iload 4, 2) := by decide +kernel
theorem dX2_playPerson_23 : decode cX2_playPerson 23 = .ok (.ifCond .ne 7, 3) := by decide +kernel
theorem dX2_playPerson_26 : decode cX2_playPerson 26 = .ok (.iconst (-1), 1) := by decide +kernel
theorem dX2_playPerson_27 : decode cX2_playPerson 27 = .ok (.goto 4, 3) := by decide +kernel
theorem dX2_playPerson_30 : decode cX2_playPerson 30 = .ok (.iconst 1, 1) := by decide +kernel
theorem dX2_playPerson_31 : decode cX2_playPerson 31 = .ok (.iadd, 1) := by decide +kernel
theorem dX2_playPerson_32 : decode cX2_playPerson 32 = .ok (.invokevirtual 50, 3) := by decide +kernel
theorem dX2_playPerson_35 : decode cX2_playPerson 35 = .ok (.pop, 1) := by decide +kernel
theorem dX2_playPerson_36 : decode cX2_playPerson 36 = .ok (.goto 55, 3) := by decide +kernel
theorem dX2_playPerson_39 : decode cX2_playPerson 39 = .ok (.aload_n 1, 1) := by decide +kernel
theorem dX2_playPerson_40 : decode cX2_playPerson 40 = .ok (.getfield 54, 3) := by decide +kernel
theorem dX2_playPerson_43 : decode cX2_playPerson 43 = .ok (.ifCond .le 48, 3) := by decide +kernel
theorem dX2_playPerson_46 : decode cX2_playPerson 46 = .ok (.aload_n 2, 1) := by decide +kernel
theorem dX2_playPerson_47 : decode cX2_playPerson 47 = .ok (.aload_n 1, 1) := by decide +kernel
theorem dX2_playPerson_48 : decode cX2_playPerson 48 = .ok (.iload_n 3, 1) := by decide +kernel
theorem dX2_playPerson_49 : decode cX2_playPerson 49 = .ok (.aload_n 0, 1) := by decide +kernel
theorem dX2_playPerson_50 : decode cX2_playPerson 50 = .ok (.aload_n 1, 1) := by decide +kernel
theorem dX2_playPerson_51 : decode cX2_playPerson 51 = .ok (.getfield 54, 3) := by decide +kernel
theorem dX2_playPerson_54 : decode cX2_playPerson 54 = .ok (.invokevirtual 32, 3) := by decide +kernel
theorem dX2_playPerson_57 : decode cX2_playPerson 57 = .ok (.invokevirtual 57, 3) := by decide +kernel
theorem dX2_playPerson_60 : decode cX2_playPerson 60 = .ok (.istore 5, 2) := by decide +kernel
theorem dX2_playPerson_62 : decode cX2_playPerson 62 = .ok (.aload_n 0, 1) := by decide +kernel
theorem dX2_playPerson_63 : decode cX2_playPerson 63 = .ok (.dup, 1) := by decide +kernel
theorem dX2_playPerson_64 : decode cX2_playPerson 64 = .ok (.getfield 13, 3) := by decide +kernel
theorem dX2_playPerson_67 : decode cX2_playPerson 67 = .ok (.iconst 1, 1) := by decide +kernel
theorem dX2_playPerson_68 : decode cX2_playPerson 68 = .ok (.iadd, 1) := by decide +kernel
theorem dX2_playPerson_69 : decode cX2_playPerson 69 = .ok (.putfield 13, 3) := by decide +kernel
theorem dX2_playPerson_72 : decode cX2_playPerson 72 = .ok (.aload_n 0, 1) := by decide +kernel
theorem dX2_playPerson_73 : decode cX2_playPerson 73 = .ok (.dup, 1) := by decide +kernel
theorem dX2_playPerson_74 : decode cX2_playPerson 74 = .ok (.getfield 17, 3) := by decide +kernel
theorem dX2_playPerson_77 : decode cX2_playPerson 77 = .ok (.iload 5, 2) := by decide +kernel
theorem dX2_playPerson_79 : decode cX2_playPerson 79 = .ok (.ifCond .ne 7, 3) := by decide +kernel
theorem dX2_playPerson_82 : decode cX2_playPerson 82 = .ok (.iconst 1, 1) := by decide +kernel
theorem dX2_playPerson_83 : decode cX2_playPerson 83 = .ok (.goto 4, 3) := by decide +kernel
theorem dX2_playPerson_86 : decode cX2_playPerson 86 = .ok (.iconst 0, 1) := by decide +kernel
theorem dX2_playPerson_87 : decode cX2_playPerson 87 = .ok (.iadd, 1) := by decide +kernel
theorem dX2_playPerson_88 : decode cX2_playPerson 88 = .ok (.putfield 17, 3) := by decide +kernel
theorem dX2_playPerson_91 : decode cX2_playPerson 91 = .ok (.return_, 1) := by decide +kernel
theorem dX2_draw_0 : decode cX2_draw 0 = .ok (.aload_n 0, 1) := by decide +kernel
theorem dX2_draw_1 : decode cX2_draw 1 = .ok (.aload_n 0, 1) := by decide +kernel
theorem dX2_draw_2 : decode cX2_draw 2 = .ok (.getfield 7, 3) := by decide +kernel
theorem dX2_draw_5 : decode cX2_draw 5 = .ok (.ldc2_w 61, 3) := by decide +kernel
theorem dX2_draw_8 : decode cX2_draw 8 = .ok (.lmul, 1) := by decide +kernel
theorem dX2_draw_9 : decode cX2_draw 9 = .ok (.ldc2_w 63, 3) := by decide +kernel
theorem dX2_draw_12 : decode cX2_draw 12 = .ok (.ladd, 1) := by decide +kernel
theorem dX2_draw_13 : decode cX2_draw 13 = .ok (.ldc2_w 65, 3) := by decide +kernel
theorem dX2_draw_16 : decode cX2_draw 16 = .ok (.lrem, 1) := by decide +kernel
theorem dX2_draw_17 : decode cX2_draw 17 = .ok (.putfield 7, 3) := by decide +kernel
theorem dX2_draw_20 : decode cX2_draw 20 = .ok (.iload_n 1, 1) := by decide +kernel
theorem dX2_draw_21 : decode cX2_draw 21 = .ok (.ifCond .gt 7, 3) := by decide +kernel
theorem dX2_draw_24 : decode cX2_draw 24 = .ok (.iconst 0, 1) := by decide +kernel
theorem dX2_draw_25 : decode cX2_draw 25 = .ok (.goto 15, 3) := by decide +kernel
theorem dX2_draw_28 : decode cX2_draw 28 = .ok (.aload_n 0, 1) := by decide +kernel
theorem dX2_draw_29 : decode cX2_draw 29 = .ok (.getfield 7, 3) := by decide +kernel
theorem dX2_draw_32 : decode cX2_draw 32 = .ok (.ldc2_w 67, 3) := by decide +kernel
theorem dX2_draw_35 : decode cX2_draw 35 = .ok (.ldiv, 1) := by decide +kernel
theorem dX2_draw_36 : decode cX2_draw 36 = .ok (.iload_n 1, 1) := by decide +kernel
theorem dX2_draw_37 : decode cX2_draw 37 = .ok (.i2l, 1) := by decide +kernel
theorem dX2_draw_38 : decode cX2_draw 38 = .ok (.lrem, 1) := by decide +kernel
theorem dX2_draw_39 : decode cX2_draw 39 = .ok (.l2i, 1) := by decide +kernel
theorem dX2_draw_40 : decode cX2_draw 40 = .ok (.ireturn, 1) := by decide +kernel
theorem dX3_harmOf_0 : decode cX3_harmOf 0 = .ok (.iconst 0, 1) := by decide +kernel
theorem dX3_harmOf_1 : decode cX3_harmOf 1 = .ok (.istore_n 2, 1) := by decide +kernel
theorem dX3_harmOf_2 : decode cX3_harmOf 2 = .ok (.iconst 0, 1) := by decide +kernel
theorem dX3_harmOf_3 : decode cX3_harmOf 3 = .ok (.istore_n 3, 1) := by decide +kernel
theorem dX3_harmOf_4 : decode cX3_harmOf 4 = .ok (.iload_n 3, 1) := by decide +kernel
theorem dX3_harmOf_5 : decode cX3_harmOf 5 = .ok (.aload_n 0, 1) := by decide +kernel
theorem dX3_harmOf_6 : decode cX3_harmOf 6 = .ok (.getfield 9, 3) := by decide +kernel
theorem dX3_harmOf_9 : decode cX3_harmOf 9 = .ok (.if_icmp .ge 24, 3) := by decide +kernel
theorem dX3_harmOf_12 : decode cX3_harmOf 12 = .ok (.iload_n 2, 1) := by decide +kernel
theorem dX3_harmOf_13 : decode cX3_harmOf 13 = .ok (.iload_n 1, 1) := by decide +kernel
theorem dX3_harmOf_14 : decode cX3_harmOf 14 = .ok (.iload_n 3, 1) := by decide +kernel
theorem dX3_harmOf_15 : decode cX3_harmOf 15 = .ok (.ishr, 1) := by decide +kernel
theorem dX3_harmOf_16 : decode cX3_harmOf 16 = .ok (.iconst 1, 1) := by decide +kernel
theorem dX3_harmOf_17 : decode cX3_harmOf 17 = .ok (.iand, 1) := by decide +kernel
theorem dX3_harmOf_18 : decode cX3_harmOf 18 = .ok (.aload_n 0, 1) := by decide +kernel
theorem dX3_harmOf_19 : decode cX3_harmOf 19 = .ok (.getfield 15, 3) := by decide +kernel
theorem dX3_harmOf_22 : decode cX3_harmOf 22 = .ok (.iload_n 3, 1) := by decide +kernel
theorem dX3_harmOf_23 : decode cX3_harmOf 23 = .ok (.iaload, 1) := by decide +kernel
theorem dX3_harmOf_24 : decode cX3_harmOf 24 = .ok (.imul, 1) := by decide +kernel
theorem dX3_harmOf_25 : decode cX3_harmOf 25 = .ok (.iadd, 1) := by decide +kernel
theorem dX3_harmOf_26 : decode cX3_harmOf 26 = .ok (.istore_n 2, 1) := by decide +kernel
theorem dX3_harmOf_27 : decode cX3_harmOf 27 = .ok (.iinc 3 1, 3) := by decide +kernel
theorem dX3_harmOf_30 : decode cX3_harmOf 30 = .ok (.goto (-26), 3) := by decide +kernel
theorem dX3_harmOf_33 : decode cX3_harmOf 33 = .ok (.iload_n 2, 1) := by decide +kernel
theorem dX3_harmOf_34 : decode cX3_harmOf 34 = .ok (.ireturn, 1) := by decide +kernel
theorem dX3_harmShown_0 : decode cX3_harmShown 0 = .ok (.iconst 0, 1) := by decide +kernel
theorem dX3_harmShown_1 : decode cX3_harmShown 1 = .ok (.istore_n 3, 1) := by decide +kernel
theorem dX3_harmShown_2 : decode cX3_harmShown 2 = .ok (.iconst 0, 1) := by decide +kernel
theorem dX3_harmShown_3 : decode cX3_harmShown 3 = .ok (.istore 4, 2) := by decide +kernel
theorem dX3_harmShown_5 : decode cX3_harmShown 5 = .ok (.iload 4, 2) := by decide +kernel
theorem dX3_harmShown_7 : decode cX3_harmShown 7 = .ok (.aload_n 0, 1) := by decide +kernel
theorem dX3_harmShown_8 : decode cX3_harmShown 8 = .ok (.getfield 19, 3) := by decide +kernel
theorem dX3_harmShown_11 : decode cX3_harmShown 11 = .ok (.if_icmp .ge 70, 3) := by decide +kernel
theorem dX3_harmShown_14 : decode cX3_harmShown 14 = .ok (.aload_n 1, 1) := by decide +kernel
theorem dX3_harmShown_15 : decode cX3_harmShown 15 = .ok (.iload 4, 2) := by decide +kernel
theorem dX3_harmShown_17 : decode cX3_harmShown 17 = .ok (.invokevirtual 22, 3) := by decide +kernel
theorem dX3_harmShown_20 : decode cX3_harmShown 20 = .ok (.ifCond .eq 13, 3) := by decide +kernel
theorem dX3_harmShown_23 : decode cX3_harmShown 23 = .ok (.aload_n 1, 1) := by decide +kernel
theorem dX3_harmShown_24 : decode cX3_harmShown 24 = .ok (.getfield 28, 3) := by decide +kernel
theorem dX3_harmShown_27 : decode cX3_harmShown 27 = .ok (.iload 4, 2) := by decide +kernel
theorem dX3_harmShown_29 : decode cX3_harmShown 29 = .ok (.iaload, 1) := by decide +kernel
theorem dX3_harmShown_30 : decode cX3_harmShown 30 = .ok (.goto 4, 3) := by decide +kernel
theorem dX3_harmShown_33 : decode cX3_harmShown 33 = .ok (.iconst 0, 1) := by decide +kernel
theorem dX3_harmShown_34 : decode cX3_harmShown 34 = .ok (.istore 5, 2) := by decide +kernel
theorem dX3_harmShown_36 : decode cX3_harmShown 36 = .ok (.iconst 0, 1) := by decide +kernel
theorem dX3_harmShown_37 : decode cX3_harmShown 37 = .ok (.iload 5, 2) := by decide +kernel
theorem dX3_harmShown_39 : decode cX3_harmShown 39 = .ok (.iload_n 2, 1) := by decide +kernel
theorem dX3_harmShown_40 : decode cX3_harmShown 40 = .ok (.isub, 1) := by decide +kernel
theorem dX3_harmShown_41 : decode cX3_harmShown 41 = .ok (.invokestatic 31, 3) := by decide +kernel
theorem dX3_harmShown_44 : decode cX3_harmShown 44 = .ok (.istore 6, 2) := by decide +kernel
theorem dX3_harmShown_46 : decode cX3_harmShown 46 = .ok (.iload 6, 2) := by decide +kernel
theorem dX3_harmShown_48 : decode cX3_harmShown 48 = .ok (.iload 5, 2) := by decide +kernel
theorem dX3_harmShown_50 : decode cX3_harmShown 50 = .ok (.if_icmp .ge 25, 3) := by decide +kernel
theorem dX3_harmShown_53 : decode cX3_harmShown 53 = .ok (.iload_n 3, 1) := by decide +kernel
theorem dX3_harmShown_54 : decode cX3_harmShown 54 = .ok (.iconst 1, 1) := by decide +kernel
theorem dX3_harmShown_55 : decode cX3_harmShown 55 = .ok (.aload_n 1, 1) := by decide +kernel
theorem dX3_harmShown_56 : decode cX3_harmShown 56 = .ok (.iload 4, 2) := by decide +kernel
theorem dX3_harmShown_58 : decode cX3_harmShown 58 = .ok (.iload 6, 2) := by decide +kernel
theorem dX3_harmShown_60 : decode cX3_harmShown 60 = .ok (.invokevirtual 37, 3) := by decide +kernel
theorem dX3_harmShown_63 : decode cX3_harmShown 63 = .ok (.invokestatic 40, 3) := by decide +kernel
theorem dX3_harmShown_66 : decode cX3_harmShown 66 = .ok (.ishl, 1) := by decide +kernel
theorem dX3_harmShown_67 : decode cX3_harmShown 67 = .ok (.ior, 1) := by decide +kernel
theorem dX3_harmShown_68 : decode cX3_harmShown 68 = .ok (.istore_n 3, 1) := by decide +kernel
theorem dX3_harmShown_69 : decode cX3_harmShown 69 = .ok (.iinc 6 1, 3) := by decide +kernel
theorem dX3_harmShown_72 : decode cX3_harmShown 72 = .ok (.goto (-26), 3) := by decide +kernel
theorem dX3_harmShown_75 : decode cX3_harmShown 75 = .ok (.iinc 4 1, 3) := by decide +kernel
theorem dX3_harmShown_78 : decode cX3_harmShown 78 = .ok (.goto (-73), 3) := by decide +kernel
theorem dX3_harmShown_81 : decode cX3_harmShown 81 = .ok (.aload_n 0, 1) := by decide +kernel
theorem dX3_harmShown_82 : decode cX3_harmShown 82 = .ok (.iload_n 3, 1) := by decide +kernel
theorem dX3_harmShown_83 : decode cX3_harmShown 83 = .ok (.invokestatic 44, 3) := by decide +kernel
theorem dX3_harmShown_86 : decode cX3_harmShown 86 = .ok (.ireturn, 1) := by decide +kernel
theorem dX3_isShownOf_0 : decode cX3_isShownOf 0 = .ok (.aload_n 1, 1) := by decide +kernel
theorem dX3_isShownOf_1 : decode cX3_isShownOf 1 = .ok (.iload_n 2, 1) := by decide +kernel
theorem dX3_isShownOf_2 : decode cX3_isShownOf 2 = .ok (.invokevirtual 22, 3) := by decide +kernel
theorem dX3_isShownOf_5 : decode cX3_isShownOf 5 = .ok (.ifCond .eq 30, 3) := by decide +kernel
theorem dX3_isShownOf_8 : decode cX3_isShownOf 8 = .ok (.aload_n 1, 1) := by decide +kernel
theorem dX3_isShownOf_9 : decode cX3_isShownOf 9 = .ok (.aload_n 0, 1) := by decide +kernel
theorem dX3_isShownOf_10 : decode cX3_isShownOf 10 = .ok (.iload_n 2, 1) := by decide +kernel
theorem dX3_isShownOf_11 : decode cX3_isShownOf 11 = .ok (.invokevirtual 50, 3) := by decide +kernel
theorem dX3_isShownOf_14 : decode cX3_isShownOf 14 = .ok (.ifCond .eq 21, 3) := by decide +kernel
theorem dX3_isShownOf_17 : decode cX3_isShownOf 17 = .ok (.aload_n 1, 1) := by decide +kernel
theorem dX3_isShownOf_18 : decode cX3_isShownOf 18 = .ok (.iload_n 2, 1) := by decide +kernel
theorem dX3_isShownOf_19 : decode cX3_isShownOf 19 = .ok (.iload_n 3, 1) := by decide +kernel
theorem dX3_isShownOf_20 : decode cX3_isShownOf 20 = .ok (.invokevirtual 37, 3) := by decide +kernel
theorem dX3_isShownOf_23 : decode cX3_isShownOf 23 = .ok (.invokestatic 54, 3) := by decide +kernel
theorem dX3_isShownOf_26 : decode cX3_isShownOf 26 = .ok (.iload 4, 2) := by decide +kernel
theorem dX3_isShownOf_28 : decode cX3_isShownOf 28 = .ok (.if_icmp .ne 7, 3) := by decide +kernel
theorem dX3_isShownOf_31 : decode cX3_isShownOf 31 = .ok (.iconst 1, 1) := by decide +kernel
theorem dX3_isShownOf_32 : decode cX3_isShownOf 32 = .ok (.goto 4, 3) := by decide +kernel
theorem dX3_isShownOf_35 : decode cX3_isShownOf 35 = .ok (.iconst 0, 1) := by decide +kernel
theorem dX3_isShownOf_36 : decode cX3_isShownOf 36 = .ok (.ireturn, 1) := by decide +kernel
theorem dX3_deedsShownOf_0 : decode cX3_deedsShownOf 0 = .ok (.iconst 0, 1) := by decide +kernel
theorem dX3_deedsShownOf_1 : decode cX3_deedsShownOf 1 = .ok (.istore 4, 2) := by decide +kernel
theorem dX3_deedsShownOf_3 : decode cX3_deedsShownOf 3 = .ok (.iconst 0, 1) := by decide +kernel
theorem dX3_deedsShownOf_4 : decode cX3_deedsShownOf 4 = .ok (.istore 5, 2) := by decide +kernel
theorem dX3_deedsShownOf_6 : decode cX3_deedsShownOf 6 = .ok (.iload 5, 2) := by decide +kernel
theorem dX3_deedsShownOf_8 : decode cX3_deedsShownOf 8 = .ok (.aload_n 0, 1) := by decide +kernel
theorem dX3_deedsShownOf_9 : decode cX3_deedsShownOf 9 = .ok (.getfield 19, 3) := by decide +kernel
theorem dX3_deedsShownOf_12 : decode cX3_deedsShownOf 12 = .ok (.if_icmp .ge 78, 3) := by decide +kernel
theorem dX3_deedsShownOf_15 : decode cX3_deedsShownOf 15 = .ok (.iload_n 2, 1) := by decide +kernel
theorem dX3_deedsShownOf_16 : decode cX3_deedsShownOf 16 = .ok (.iload 5, 2) := by decide +kernel
theorem dX3_deedsShownOf_18 : decode cX3_deedsShownOf 18 = .ok (.ishr, 1) := by decide +kernel
theorem dX3_deedsShownOf_19 : decode cX3_deedsShownOf 19 = .ok (.iconst 1, 1) := by decide +kernel
theorem dX3_deedsShownOf_20 : decode cX3_deedsShownOf 20 = .ok (.iand, 1) := by decide +kernel
theorem dX3_deedsShownOf_21 : decode cX3_deedsShownOf 21 = .ok (.ifCond .eq 13, 3) := by decide +kernel
theorem dX3_deedsShownOf_24 : decode cX3_deedsShownOf 24 = .ok (.aload_n 1, 1) := by decide +kernel
theorem dX3_deedsShownOf_25 : decode cX3_deedsShownOf 25 = .ok (.getfield 28, 3) := by decide +kernel
theorem dX3_deedsShownOf_28 : decode cX3_deedsShownOf 28 = .ok (.iload 5, 2) := by decide +kernel
theorem dX3_deedsShownOf_30 : decode cX3_deedsShownOf 30 = .ok (.iaload, 1) := by decide +kernel
theorem dX3_deedsShownOf_31 : decode cX3_deedsShownOf 31 = .ok (.goto 4, 3) := by decide +kernel
theorem dX3_deedsShownOf_34 : decode cX3_deedsShownOf 34 = .ok (.iconst 0, 1) := by decide +kernel
theorem dX3_deedsShownOf_35 : decode cX3_deedsShownOf 35 = .ok (.istore 6, 2) := by decide +kernel
theorem dX3_deedsShownOf_37 : decode cX3_deedsShownOf 37 = .ok (.iconst 0, 1) := by decide +kernel
theorem dX3_deedsShownOf_38 : decode cX3_deedsShownOf 38 = .ok (.istore 7, 2) := by decide +kernel
theorem dX3_deedsShownOf_40 : decode cX3_deedsShownOf 40 = .ok (.iload 7, 2) := by decide +kernel
theorem dX3_deedsShownOf_42 : decode cX3_deedsShownOf 42 = .ok (.iload 6, 2) := by decide +kernel
theorem dX3_deedsShownOf_44 : decode cX3_deedsShownOf 44 = .ok (.if_icmp .ge 40, 3) := by decide +kernel
theorem dX3_deedsShownOf_47 : decode cX3_deedsShownOf 47 = .ok (.aload_n 0, 1) := by decide +kernel
theorem dX3_deedsShownOf_48 : decode cX3_deedsShownOf 48 = .ok (.aload_n 1, 1) := by decide +kernel
theorem dX3_deedsShownOf_49 : decode cX3_deedsShownOf 49 = .ok (.iload 5, 2) := by decide +kernel
theorem dX3_deedsShownOf_51 : decode cX3_deedsShownOf 51 = .ok (.iload 7, 2) := by decide +kernel
theorem dX3_deedsShownOf_53 : decode cX3_deedsShownOf 53 = .ok (.iload_n 3, 1) := by decide +kernel
theorem dX3_deedsShownOf_54 : decode cX3_deedsShownOf 54 = .ok (.invokestatic 57, 3) := by decide +kernel
theorem dX3_deedsShownOf_57 : decode cX3_deedsShownOf 57 = .ok (.ifCond .eq 21, 3) := by decide +kernel
theorem dX3_deedsShownOf_60 : decode cX3_deedsShownOf 60 = .ok (.iload 4, 2) := by decide +kernel
theorem dX3_deedsShownOf_62 : decode cX3_deedsShownOf 62 = .ok (.iconst 1, 1) := by decide +kernel
theorem dX3_deedsShownOf_63 : decode cX3_deedsShownOf 63 = .ok (.aload_n 1, 1) := by decide +kernel
theorem dX3_deedsShownOf_64 : decode cX3_deedsShownOf 64 = .ok (.iload 5, 2) := by decide +kernel
theorem dX3_deedsShownOf_66 : decode cX3_deedsShownOf 66 = .ok (.iload 7, 2) := by decide +kernel
theorem dX3_deedsShownOf_68 : decode cX3_deedsShownOf 68 = .ok (.invokevirtual 37, 3) := by decide +kernel
theorem dX3_deedsShownOf_71 : decode cX3_deedsShownOf 71 = .ok (.invokestatic 40, 3) := by decide +kernel
theorem dX3_deedsShownOf_74 : decode cX3_deedsShownOf 74 = .ok (.ishl, 1) := by decide +kernel
theorem dX3_deedsShownOf_75 : decode cX3_deedsShownOf 75 = .ok (.ior, 1) := by decide +kernel
theorem dX3_deedsShownOf_76 : decode cX3_deedsShownOf 76 = .ok (.istore 4, 2) := by decide +kernel
theorem dX3_deedsShownOf_78 : decode cX3_deedsShownOf 78 = .ok (.iinc 7 1, 3) := by decide +kernel
theorem dX3_deedsShownOf_81 : decode cX3_deedsShownOf 81 = .ok (.goto (-41), 3) := by decide +kernel
theorem dX3_deedsShownOf_84 : decode cX3_deedsShownOf 84 = .ok (.iinc 5 1, 3) := by decide +kernel
theorem dX3_deedsShownOf_87 : decode cX3_deedsShownOf 87 = .ok (.goto (-81), 3) := by decide +kernel
theorem dX3_deedsShownOf_90 : decode cX3_deedsShownOf 90 = .ok (.iload 4, 2) := by decide +kernel
theorem dX3_deedsShownOf_92 : decode cX3_deedsShownOf 92 = .ok (.ireturn, 1) := by decide +kernel
theorem dX3_allPanes_0 : decode cX3_allPanes 0 = .ok (.iconst 1, 1) := by decide +kernel
theorem dX3_allPanes_1 : decode cX3_allPanes 1 = .ok (.aload_n 0, 1) := by decide +kernel
theorem dX3_allPanes_2 : decode cX3_allPanes 2 = .ok (.getfield 19, 3) := by decide +kernel
theorem dX3_allPanes_5 : decode cX3_allPanes 5 = .ok (.ishl, 1) := by decide +kernel
theorem dX3_allPanes_6 : decode cX3_allPanes 6 = .ok (.iconst 1, 1) := by decide +kernel
theorem dX3_allPanes_7 : decode cX3_allPanes 7 = .ok (.isub, 1) := by decide +kernel
theorem dX3_allPanes_8 : decode cX3_allPanes 8 = .ok (.ireturn, 1) := by decide +kernel
theorem dX3_shameOf_0 : decode cX3_shameOf 0 = .ok (.aload_n 0, 1) := by decide +kernel
theorem dX3_shameOf_1 : decode cX3_shameOf 1 = .ok (.aload_n 0, 1) := by decide +kernel
theorem dX3_shameOf_2 : decode cX3_shameOf 2 = .ok (.aload_n 1, 1) := by decide +kernel
theorem dX3_shameOf_3 : decode cX3_shameOf 3 = .ok (.aload_n 0, 1) := by decide +kernel
theorem dX3_shameOf_4 : decode cX3_shameOf 4 = .ok (.invokestatic 61, 3) := by decide +kernel
theorem dX3_shameOf_7 : decode cX3_shameOf 7 = .ok (.iload_n 2, 1) := by decide +kernel
theorem dX3_shameOf_8 : decode cX3_shameOf 8 = .ok (.invokestatic 65, 3) := by decide +kernel
theorem dX3_shameOf_11 : decode cX3_shameOf 11 = .ok (.invokestatic 44, 3) := by decide +kernel
theorem dX3_shameOf_14 : decode cX3_shameOf 14 = .ok (.ireturn, 1) := by decide +kernel
theorem dX3_fewestProving_0 : decode cX3_fewestProving 0 = .ok (.iconst (-1), 1) := by decide +kernel
theorem dX3_fewestProving_1 : decode cX3_fewestProving 1 = .ok (.istore 4, 2) := by decide +kernel
theorem dX3_fewestProving_3 : decode cX3_fewestProving 3 = .ok (.iconst 0, 1) := by decide +kernel
theorem dX3_fewestProving_4 : decode cX3_fewestProving 4 = .ok (.istore 5, 2) := by decide +kernel
theorem dX3_fewestProving_6 : decode cX3_fewestProving 6 = .ok (.iload 5, 2) := by decide +kernel
theorem dX3_fewestProving_8 : decode cX3_fewestProving 8 = .ok (.aload_n 0, 1) := by decide +kernel
theorem dX3_fewestProving_9 : decode cX3_fewestProving 9 = .ok (.invokestatic 61, 3) := by decide +kernel
theorem dX3_fewestProving_12 : decode cX3_fewestProving 12 = .ok (.if_icmp .gt 41, 3) := by decide +kernel
theorem dX3_fewestProving_15 : decode cX3_fewestProving 15 = .ok (.aload_n 0, 1) := by decide +kernel
theorem dX3_fewestProving_16 : decode cX3_fewestProving 16 = .ok (.aload_n 1, 1) := by decide +kernel
theorem dX3_fewestProving_17 : decode cX3_fewestProving 17 = .ok (.iload 5, 2) := by decide +kernel
theorem dX3_fewestProving_19 : decode cX3_fewestProving 19 = .ok (.iload_n 2, 1) := by decide +kernel
theorem dX3_fewestProving_20 : decode cX3_fewestProving 20 = .ok (.invokestatic 65, 3) := by decide +kernel
theorem dX3_fewestProving_23 : decode cX3_fewestProving 23 = .ok (.iload_n 3, 1) := by decide +kernel
theorem dX3_fewestProving_24 : decode cX3_fewestProving 24 = .ok (.iand, 1) := by decide +kernel
theorem dX3_fewestProving_25 : decode cX3_fewestProving 25 = .ok (.istore 6, 2) := by decide +kernel
theorem dX3_fewestProving_27 : decode cX3_fewestProving 27 = .ok (.iload 6, 2) := by decide +kernel
theorem dX3_fewestProving_29 : decode cX3_fewestProving 29 = .ok (.iload_n 3, 1) := by decide +kernel
theorem dX3_fewestProving_30 : decode cX3_fewestProving 30 = .ok (.if_icmp .ne 17, 3) := by decide +kernel
theorem dX3_fewestProving_33 : decode cX3_fewestProving 33 = .ok (.iload 5, 2) := by decide +kernel
theorem dX3_fewestProving_35 : decode cX3_fewestProving 35 = .ok (.iload 4, 2) := by decide +kernel
theorem dX3_fewestProving_37 : decode cX3_fewestProving 37 = .ok (.invokestatic 69, 3) := by decide +kernel
theorem dX3_fewestProving_40 : decode cX3_fewestProving 40 = .ok (.ifCond .eq 7, 3) := by decide +kernel
theorem dX3_fewestProving_43 : decode cX3_fewestProving 43 = .ok (.iload 5, 2) := by decide +kernel
theorem dX3_fewestProving_45 : decode cX3_fewestProving 45 = .ok (.istore 4, 2) := by decide +kernel
theorem dX3_fewestProving_47 : decode cX3_fewestProving 47 = .ok (.iinc 5 1, 3) := by decide +kernel
theorem dX3_fewestProving_50 : decode cX3_fewestProving 50 = .ok (.goto (-44), 3) := by decide +kernel
theorem dX3_fewestProving_53 : decode cX3_fewestProving 53 = .ok (.iload 4, 2) := by decide +kernel
theorem dX3_fewestProving_55 : decode cX3_fewestProving 55 = .ok (.ireturn, 1) := by decide +kernel
theorem dX3_fewestCloaking_0 : decode cX3_fewestCloaking 0 = .ok (.aload_n 0, 1) := by decide +kernel
theorem dX3_fewestCloaking_1 : decode cX3_fewestCloaking 1 = .ok (.invokestatic 61, 3) := by decide +kernel
theorem dX3_fewestCloaking_4 : decode cX3_fewestCloaking 4 = .ok (.istore 4, 2) := by decide +kernel
theorem dX3_fewestCloaking_6 : decode cX3_fewestCloaking 6 = .ok (.aload_n 1, 1) := by decide +kernel
theorem dX3_fewestCloaking_7 : decode cX3_fewestCloaking 7 = .ok (.getfield 73, 3) := by decide +kernel
theorem dX3_fewestCloaking_10 : decode cX3_fewestCloaking 10 = .ok (.aload_n 1, 1) := by decide +kernel
theorem dX3_fewestCloaking_11 : decode cX3_fewestCloaking 11 = .ok (.getfield 76, 3) := by decide +kernel
theorem dX3_fewestCloaking_14 : decode cX3_fewestCloaking 14 = .ok (.ior, 1) := by decide +kernel
theorem dX3_fewestCloaking_15 : decode cX3_fewestCloaking 15 = .ok (.istore 5, 2) := by decide +kernel
theorem dX3_fewestCloaking_17 : decode cX3_fewestCloaking 17 = .ok (.iconst (-1), 1) := by decide +kernel
theorem dX3_fewestCloaking_18 : decode cX3_fewestCloaking 18 = .ok (.istore 6, 2) := by decide +kernel
theorem dX3_fewestCloaking_20 : decode cX3_fewestCloaking 20 = .ok (.iconst 0, 1) := by decide +kernel
theorem dX3_fewestCloaking_21 : decode cX3_fewestCloaking 21 = .ok (.istore 7, 2) := by decide +kernel
theorem dX3_fewestCloaking_23 : decode cX3_fewestCloaking 23 = .ok (.iload 7, 2) := by decide +kernel
theorem dX3_fewestCloaking_25 : decode cX3_fewestCloaking 25 = .ok (.iload 4, 2) := by decide +kernel
theorem dX3_fewestCloaking_27 : decode cX3_fewestCloaking 27 = .ok (.if_icmp .gt 52, 3) := by decide +kernel
theorem dX3_fewestCloaking_30 : decode cX3_fewestCloaking 30 = .ok (.iload 7, 2) := by decide +kernel
theorem dX3_fewestCloaking_32 : decode cX3_fewestCloaking 32 = .ok (.iload 5, 2) := by decide +kernel
theorem dX3_fewestCloaking_34 : decode cX3_fewestCloaking 34 = .ok (.iand, 1) := by decide +kernel
theorem dX3_fewestCloaking_35 : decode cX3_fewestCloaking 35 = .ok (.ifCond .ne 38, 3) := by decide +kernel
theorem dX3_fewestCloaking_38 : decode cX3_fewestCloaking 38 = .ok (.iload 7, 2) := by decide +kernel
theorem dX3_fewestCloaking_40 : decode cX3_fewestCloaking 40 = .ok (.iload 6, 2) := by decide +kernel
theorem dX3_fewestCloaking_42 : decode cX3_fewestCloaking 42 = .ok (.invokestatic 69, 3) := by decide +kernel
theorem dX3_fewestCloaking_45 : decode cX3_fewestCloaking 45 = .ok (.ifCond .eq 28, 3) := by decide +kernel
theorem dX3_fewestCloaking_48 : decode cX3_fewestCloaking 48 = .ok (.aload_n 0, 1) := by decide +kernel
theorem dX3_fewestCloaking_49 : decode cX3_fewestCloaking 49 = .ok (.aload_n 0, 1) := by decide +kernel
theorem dX3_fewestCloaking_50 : decode cX3_fewestCloaking 50 = .ok (.aload_n 1, 1) := by decide +kernel
theorem dX3_fewestCloaking_51 : decode cX3_fewestCloaking 51 = .ok (.iload 4, 2) := by decide +kernel
theorem dX3_fewestCloaking_53 : decode cX3_fewestCloaking 53 = .ok (.iload 7, 2) := by decide +kernel
theorem dX3_fewestCloaking_55 : decode cX3_fewestCloaking 55 = .ok (.iconst (-1), 1) := by decide +kernel
theorem dX3_fewestCloaking_56 : decode cX3_fewestCloaking 56 = .ok (.ixor, 1) := by decide +kernel
theorem dX3_fewestCloaking_57 : decode cX3_fewestCloaking 57 = .ok (.iand, 1) := by decide +kernel
theorem dX3_fewestCloaking_58 : decode cX3_fewestCloaking 58 = .ok (.iload_n 2, 1) := by decide +kernel
theorem dX3_fewestCloaking_59 : decode cX3_fewestCloaking 59 = .ok (.invokestatic 65, 3) := by decide +kernel
theorem dX3_fewestCloaking_62 : decode cX3_fewestCloaking 62 = .ok (.invokestatic 44, 3) := by decide +kernel
theorem dX3_fewestCloaking_65 : decode cX3_fewestCloaking 65 = .ok (.iload_n 3, 1) := by decide +kernel
theorem dX3_fewestCloaking_66 : decode cX3_fewestCloaking 66 = .ok (.if_icmp .gt 7, 3) := by decide +kernel
theorem dX3_fewestCloaking_69 : decode cX3_fewestCloaking 69 = .ok (.iload 7, 2) := by decide +kernel
theorem dX3_fewestCloaking_71 : decode cX3_fewestCloaking 71 = .ok (.istore 6, 2) := by decide +kernel
theorem dX3_fewestCloaking_73 : decode cX3_fewestCloaking 73 = .ok (.iinc 7 1, 3) := by decide +kernel
theorem dX3_fewestCloaking_76 : decode cX3_fewestCloaking 76 = .ok (.goto (-53), 3) := by decide +kernel
theorem dX3_fewestCloaking_79 : decode cX3_fewestCloaking 79 = .ok (.iload 6, 2) := by decide +kernel
theorem dX3_fewestCloaking_81 : decode cX3_fewestCloaking 81 = .ok (.ireturn, 1) := by decide +kernel
theorem dX3_rinsesNeeded_0 : decode cX3_rinsesNeeded 0 = .ok (.iconst 0, 1) := by decide +kernel
theorem dX3_rinsesNeeded_1 : decode cX3_rinsesNeeded 1 = .ok (.istore 4, 2) := by decide +kernel
theorem dX3_rinsesNeeded_3 : decode cX3_rinsesNeeded 3 = .ok (.iconst 0, 1) := by decide +kernel
theorem dX3_rinsesNeeded_4 : decode cX3_rinsesNeeded 4 = .ok (.istore 5, 2) := by decide +kernel
theorem dX3_rinsesNeeded_6 : decode cX3_rinsesNeeded 6 = .ok (.iload 5, 2) := by decide +kernel
theorem dX3_rinsesNeeded_8 : decode cX3_rinsesNeeded 8 = .ok (.aload_n 0, 1) := by decide +kernel
theorem dX3_rinsesNeeded_9 : decode cX3_rinsesNeeded 9 = .ok (.getfield 19, 3) := by decide +kernel
theorem dX3_rinsesNeeded_12 : decode cX3_rinsesNeeded 12 = .ok (.if_icmp .ge 88, 3) := by decide +kernel
theorem dX3_rinsesNeeded_15 : decode cX3_rinsesNeeded 15 = .ok (.aload_n 1, 1) := by decide +kernel
theorem dX3_rinsesNeeded_16 : decode cX3_rinsesNeeded 16 = .ok (.iload 5, 2) := by decide +kernel
theorem dX3_rinsesNeeded_18 : decode cX3_rinsesNeeded 18 = .ok (.invokevirtual 79, 3) := by decide +kernel
theorem dX3_rinsesNeeded_21 : decode cX3_rinsesNeeded 21 = .ok (.ifCond .eq 7, 3) := by decide +kernel
theorem dX3_rinsesNeeded_24 : decode cX3_rinsesNeeded 24 = .ok (.iconst 0, 1) := by decide +kernel
theorem dX3_rinsesNeeded_25 : decode cX3_rinsesNeeded 25 = .ok (.goto 10, 3) := by decide +kernel
theorem dX3_rinsesNeeded_28 : decode cX3_rinsesNeeded 28 = .ok (.aload_n 1, 1) := by decide +kernel
theorem dX3_rinsesNeeded_29 : decode cX3_rinsesNeeded 29 = .ok (.getfield 28, 3) := by decide +kernel
theorem dX3_rinsesNeeded_32 : decode cX3_rinsesNeeded 32 = .ok (.iload 5, 2) := by decide +kernel
theorem dX3_rinsesNeeded_34 : decode cX3_rinsesNeeded 34 = .ok (.iaload, 1) := by decide +kernel
theorem dX3_rinsesNeeded_35 : decode cX3_rinsesNeeded 35 = .ok (.istore 6, 2) := by decide +kernel
theorem dX3_rinsesNeeded_37 : decode cX3_rinsesNeeded 37 = .ok (.iconst 0, 1) := by decide +kernel
theorem dX3_rinsesNeeded_38 : decode cX3_rinsesNeeded 38 = .ok (.istore 7, 2) := by decide +kernel
theorem dX3_rinsesNeeded_40 : decode cX3_rinsesNeeded 40 = .ok (.iload 7, 2) := by decide +kernel
theorem dX3_rinsesNeeded_42 : decode cX3_rinsesNeeded 42 = .ok (.iload 6, 2) := by decide +kernel
theorem dX3_rinsesNeeded_44 : decode cX3_rinsesNeeded 44 = .ok (.if_icmp .ge 50, 3) := by decide +kernel
theorem dX3_rinsesNeeded_47 : decode cX3_rinsesNeeded 47 = .ok (.aload_n 1, 1) := by decide +kernel
theorem dX3_rinsesNeeded_48 : decode cX3_rinsesNeeded 48 = .ok (.iload 5, 2) := by decide +kernel
theorem dX3_rinsesNeeded_50 : decode cX3_rinsesNeeded 50 = .ok (.iload 7, 2) := by decide +kernel
theorem dX3_rinsesNeeded_52 : decode cX3_rinsesNeeded 52 = .ok (.invokevirtual 37, 3) := by decide +kernel
theorem dX3_rinsesNeeded_55 : decode cX3_rinsesNeeded 55 = .ok (.istore 8, 2) := by decide +kernel
theorem dX3_rinsesNeeded_57 : decode cX3_rinsesNeeded 57 = .ok (.iload 8, 2) := by decide +kernel
theorem dX3_rinsesNeeded_59 : decode cX3_rinsesNeeded 59 = .ok (.invokestatic 54, 3) := by decide +kernel
theorem dX3_rinsesNeeded_62 : decode cX3_rinsesNeeded 62 = .ok (.iload_n 2, 1) := by decide +kernel
theorem dX3_rinsesNeeded_63 : decode cX3_rinsesNeeded 63 = .ok (.if_icmp .ne 25, 3) := by decide +kernel
theorem dX3_rinsesNeeded_66 : decode cX3_rinsesNeeded 66 = .ok (.iload 8, 2) := by decide +kernel
theorem dX3_rinsesNeeded_68 : decode cX3_rinsesNeeded 68 = .ok (.invokestatic 40, 3) := by decide +kernel
theorem dX3_rinsesNeeded_71 : decode cX3_rinsesNeeded 71 = .ok (.iload_n 3, 1) := by decide +kernel
theorem dX3_rinsesNeeded_72 : decode cX3_rinsesNeeded 72 = .ok (.if_icmp .ne 16, 3) := by decide +kernel
theorem dX3_rinsesNeeded_75 : decode cX3_rinsesNeeded 75 = .ok (.iload 4, 2) := by decide +kernel
theorem dX3_rinsesNeeded_77 : decode cX3_rinsesNeeded 77 = .ok (.iload 6, 2) := by decide +kernel
theorem dX3_rinsesNeeded_79 : decode cX3_rinsesNeeded 79 = .ok (.iload 7, 2) := by decide +kernel
theorem dX3_rinsesNeeded_81 : decode cX3_rinsesNeeded 81 = .ok (.isub, 1) := by decide +kernel
theorem dX3_rinsesNeeded_82 : decode cX3_rinsesNeeded 82 = .ok (.iadd, 1) := by decide +kernel
theorem dX3_rinsesNeeded_83 : decode cX3_rinsesNeeded 83 = .ok (.istore 4, 2) := by decide +kernel
theorem dX3_rinsesNeeded_85 : decode cX3_rinsesNeeded 85 = .ok (.goto 9, 3) := by decide +kernel
theorem dX3_rinsesNeeded_88 : decode cX3_rinsesNeeded 88 = .ok (.iinc 7 1, 3) := by decide +kernel
theorem dX3_rinsesNeeded_91 : decode cX3_rinsesNeeded 91 = .ok (.goto (-51), 3) := by decide +kernel
theorem dX3_rinsesNeeded_94 : decode cX3_rinsesNeeded 94 = .ok (.iinc 5 1, 3) := by decide +kernel
theorem dX3_rinsesNeeded_97 : decode cX3_rinsesNeeded 97 = .ok (.goto (-91), 3) := by decide +kernel
theorem dX3_rinsesNeeded_100 : decode cX3_rinsesNeeded 100 = .ok (.iload 4, 2) := by decide +kernel
theorem dX3_rinsesNeeded_102 : decode cX3_rinsesNeeded 102 = .ok (.ireturn, 1) := by decide +kernel
theorem dX3_marksUpTo_0 : decode cX3_marksUpTo 0 = .ok (.iconst 0, 1) := by decide +kernel
theorem dX3_marksUpTo_1 : decode cX3_marksUpTo 1 = .ok (.istore_n 3, 1) := by decide +kernel
theorem dX3_marksUpTo_2 : decode cX3_marksUpTo 2 = .ok (.iconst 0, 1) := by decide +kernel
theorem dX3_marksUpTo_3 : decode cX3_marksUpTo 3 = .ok (.istore 4, 2) := by decide +kernel
theorem dX3_marksUpTo_5 : decode cX3_marksUpTo 5 = .ok (.iload 4, 2) := by decide +kernel
theorem dX3_marksUpTo_7 : decode cX3_marksUpTo 7 = .ok (.aload_n 0, 1) := by decide +kernel
theorem dX3_marksUpTo_8 : decode cX3_marksUpTo 8 = .ok (.getfield 19, 3) := by decide +kernel
theorem dX3_marksUpTo_11 : decode cX3_marksUpTo 11 = .ok (.if_icmp .ge 53, 3) := by decide +kernel
theorem dX3_marksUpTo_14 : decode cX3_marksUpTo 14 = .ok (.iconst 0, 1) := by decide +kernel
theorem dX3_marksUpTo_15 : decode cX3_marksUpTo 15 = .ok (.istore 5, 2) := by decide +kernel
theorem dX3_marksUpTo_17 : decode cX3_marksUpTo 17 = .ok (.iload 5, 2) := by decide +kernel
theorem dX3_marksUpTo_19 : decode cX3_marksUpTo 19 = .ok (.aload_n 1, 1) := by decide +kernel
theorem dX3_marksUpTo_20 : decode cX3_marksUpTo 20 = .ok (.getfield 28, 3) := by decide +kernel
theorem dX3_marksUpTo_23 : decode cX3_marksUpTo 23 = .ok (.iload 4, 2) := by decide +kernel
theorem dX3_marksUpTo_25 : decode cX3_marksUpTo 25 = .ok (.iaload, 1) := by decide +kernel
theorem dX3_marksUpTo_26 : decode cX3_marksUpTo 26 = .ok (.if_icmp .ge 32, 3) := by decide +kernel
theorem dX3_marksUpTo_29 : decode cX3_marksUpTo 29 = .ok (.iload_n 3, 1) := by decide +kernel
theorem dX3_marksUpTo_30 : decode cX3_marksUpTo 30 = .ok (.aload_n 1, 1) := by decide +kernel
theorem dX3_marksUpTo_31 : decode cX3_marksUpTo 31 = .ok (.iload 4, 2) := by decide +kernel
theorem dX3_marksUpTo_33 : decode cX3_marksUpTo 33 = .ok (.iload 5, 2) := by decide +kernel
theorem dX3_marksUpTo_35 : decode cX3_marksUpTo 35 = .ok (.invokevirtual 37, 3) := by decide +kernel
theorem dX3_marksUpTo_38 : decode cX3_marksUpTo 38 = .ok (.invokestatic 82, 3) := by decide +kernel
theorem dX3_marksUpTo_41 : decode cX3_marksUpTo 41 = .ok (.iload_n 2, 1) := by decide +kernel
theorem dX3_marksUpTo_42 : decode cX3_marksUpTo 42 = .ok (.if_icmp .gt 7, 3) := by decide +kernel
theorem dX3_marksUpTo_45 : decode cX3_marksUpTo 45 = .ok (.iconst 1, 1) := by decide +kernel
theorem dX3_marksUpTo_46 : decode cX3_marksUpTo 46 = .ok (.goto 4, 3) := by decide +kernel
theorem dX3_marksUpTo_49 : decode cX3_marksUpTo 49 = .ok (.iconst 0, 1) := by decide +kernel
theorem dX3_marksUpTo_50 : decode cX3_marksUpTo 50 = .ok (.iadd, 1) := by decide +kernel
theorem dX3_marksUpTo_51 : decode cX3_marksUpTo 51 = .ok (.istore_n 3, 1) := by decide +kernel
theorem dX3_marksUpTo_52 : decode cX3_marksUpTo 52 = .ok (.iinc 5 1, 3) := by decide +kernel
theorem dX3_marksUpTo_55 : decode cX3_marksUpTo 55 = .ok (.goto (-38), 3) := by decide +kernel
theorem dX3_marksUpTo_58 : decode cX3_marksUpTo 58 = .ok (.iinc 4 1, 3) := by decide +kernel
theorem dX3_marksUpTo_61 : decode cX3_marksUpTo 61 = .ok (.goto (-56), 3) := by decide +kernel
theorem dX3_marksUpTo_64 : decode cX3_marksUpTo 64 = .ok (.iload_n 3, 1) := by decide +kernel
theorem dX3_marksUpTo_65 : decode cX3_marksUpTo 65 = .ok (.ireturn, 1) := by decide +kernel
theorem dX3_cellsShownOf_0 : decode cX3_cellsShownOf 0 = .ok (.iconst 0, 1) := by decide +kernel
theorem dX3_cellsShownOf_1 : decode cX3_cellsShownOf 1 = .ok (.istore_n 3, 1) := by decide +kernel
theorem dX3_cellsShownOf_2 : decode cX3_cellsShownOf 2 = .ok (.iconst 0, 1) := by decide +kernel
theorem dX3_cellsShownOf_3 : decode cX3_cellsShownOf 3 = .ok (.istore 4, 2) := by decide +kernel
theorem dX3_cellsShownOf_5 : decode cX3_cellsShownOf 5 = .ok (.iload 4, 2) := by decide +kernel
theorem dX3_cellsShownOf_7 : decode cX3_cellsShownOf 7 = .ok (.aload_n 0, 1) := by decide +kernel
theorem dX3_cellsShownOf_8 : decode cX3_cellsShownOf 8 = .ok (.getfield 19, 3) := by decide +kernel
theorem dX3_cellsShownOf_11 : decode cX3_cellsShownOf 11 = .ok (.if_icmp .ge 59, 3) := by decide +kernel
theorem dX3_cellsShownOf_14 : decode cX3_cellsShownOf 14 = .ok (.iconst 0, 1) := by decide +kernel
theorem dX3_cellsShownOf_15 : decode cX3_cellsShownOf 15 = .ok (.istore 5, 2) := by decide +kernel
theorem dX3_cellsShownOf_17 : decode cX3_cellsShownOf 17 = .ok (.iload 5, 2) := by decide +kernel
theorem dX3_cellsShownOf_19 : decode cX3_cellsShownOf 19 = .ok (.aload_n 1, 1) := by decide +kernel
theorem dX3_cellsShownOf_20 : decode cX3_cellsShownOf 20 = .ok (.getfield 28, 3) := by decide +kernel
theorem dX3_cellsShownOf_23 : decode cX3_cellsShownOf 23 = .ok (.iload 4, 2) := by decide +kernel
theorem dX3_cellsShownOf_25 : decode cX3_cellsShownOf 25 = .ok (.iaload, 1) := by decide +kernel
theorem dX3_cellsShownOf_26 : decode cX3_cellsShownOf 26 = .ok (.if_icmp .ge 38, 3) := by decide +kernel
theorem dX3_cellsShownOf_29 : decode cX3_cellsShownOf 29 = .ok (.aload_n 0, 1) := by decide +kernel
theorem dX3_cellsShownOf_30 : decode cX3_cellsShownOf 30 = .ok (.aload_n 1, 1) := by decide +kernel
theorem dX3_cellsShownOf_31 : decode cX3_cellsShownOf 31 = .ok (.iload 4, 2) := by decide +kernel
theorem dX3_cellsShownOf_33 : decode cX3_cellsShownOf 33 = .ok (.iload 5, 2) := by decide +kernel
theorem dX3_cellsShownOf_35 : decode cX3_cellsShownOf 35 = .ok (.iload_n 2, 1) := by decide +kernel
theorem dX3_cellsShownOf_36 : decode cX3_cellsShownOf 36 = .ok (.invokestatic 57, 3) := by decide +kernel
theorem dX3_cellsShownOf_39 : decode cX3_cellsShownOf 39 = .ok (.ifCond .eq 19, 3) := by decide +kernel
theorem dX3_cellsShownOf_42 : decode cX3_cellsShownOf 42 = .ok (.iload_n 3, 1) := by decide +kernel
theorem dX3_cellsShownOf_43 : decode cX3_cellsShownOf 43 = .ok (.iconst 1, 1) := by decide +kernel
theorem dX3_cellsShownOf_44 : decode cX3_cellsShownOf 44 = .ok (.aload_n 1, 1) := by decide +kernel
theorem dX3_cellsShownOf_45 : decode cX3_cellsShownOf 45 = .ok (.iload 4, 2) := by decide +kernel
theorem dX3_cellsShownOf_47 : decode cX3_cellsShownOf 47 = .ok (.iload 5, 2) := by decide +kernel
theorem dX3_cellsShownOf_49 : decode cX3_cellsShownOf 49 = .ok (.invokevirtual 37, 3) := by decide +kernel
theorem dX3_cellsShownOf_52 : decode cX3_cellsShownOf 52 = .ok (.invokestatic 85, 3) := by decide +kernel
theorem dX3_cellsShownOf_55 : decode cX3_cellsShownOf 55 = .ok (.ishl, 1) := by decide +kernel
theorem dX3_cellsShownOf_56 : decode cX3_cellsShownOf 56 = .ok (.ior, 1) := by decide +kernel
theorem dX3_cellsShownOf_57 : decode cX3_cellsShownOf 57 = .ok (.istore_n 3, 1) := by decide +kernel
theorem dX3_cellsShownOf_58 : decode cX3_cellsShownOf 58 = .ok (.iinc 5 1, 3) := by decide +kernel
theorem dX3_cellsShownOf_61 : decode cX3_cellsShownOf 61 = .ok (.goto (-44), 3) := by decide +kernel
theorem dX3_cellsShownOf_64 : decode cX3_cellsShownOf 64 = .ok (.iinc 4 1, 3) := by decide +kernel
theorem dX3_cellsShownOf_67 : decode cX3_cellsShownOf 67 = .ok (.goto (-62), 3) := by decide +kernel
theorem dX3_cellsShownOf_70 : decode cX3_cellsShownOf 70 = .ok (.iload_n 3, 1) := by decide +kernel
theorem dX3_cellsShownOf_71 : decode cX3_cellsShownOf 71 = .ok (.ireturn, 1) := by decide +kernel
theorem dX3_newestCellOf_0 : decode cX3_newestCellOf 0 = .ok (.iconst (-1), 1) := by decide +kernel
theorem dX3_newestCellOf_1 : decode cX3_newestCellOf 1 = .ok (.istore_n 3, 1) := by decide +kernel
theorem dX3_newestCellOf_2 : decode cX3_newestCellOf 2 = .ok (.iconst 0, 1) := by decide +kernel
theorem dX3_newestCellOf_3 : decode cX3_newestCellOf 3 = .ok (.istore 4, 2) := by decide +kernel
theorem dX3_newestCellOf_5 : decode cX3_newestCellOf 5 = .ok (.iconst 0, 1) := by decide +kernel
theorem dX3_newestCellOf_6 : decode cX3_newestCellOf 6 = .ok (.istore 5, 2) := by decide +kernel
theorem dX3_newestCellOf_8 : decode cX3_newestCellOf 8 = .ok (.iload 5, 2) := by decide +kernel
theorem dX3_newestCellOf_10 : decode cX3_newestCellOf 10 = .ok (.aload_n 0, 1) := by decide +kernel
theorem dX3_newestCellOf_11 : decode cX3_newestCellOf 11 = .ok (.getfield 19, 3) := by decide +kernel
theorem dX3_newestCellOf_14 : decode cX3_newestCellOf 14 = .ok (.if_icmp .ge 94, 3) := by decide +kernel
theorem dX3_newestCellOf_17 : decode cX3_newestCellOf 17 = .ok (.aload_n 1, 1) := by decide +kernel
theorem dX3_newestCellOf_18 : decode cX3_newestCellOf 18 = .ok (.getfield 28, 3) := by decide +kernel
theorem dX3_newestCellOf_21 : decode cX3_newestCellOf 21 = .ok (.iload 5, 2) := by decide +kernel
theorem dX3_newestCellOf_23 : decode cX3_newestCellOf 23 = .ok (.iaload, 1) := by decide +kernel
theorem dX3_newestCellOf_24 : decode cX3_newestCellOf 24 = .ok (.iconst 1, 1) := by decide +kernel
theorem dX3_newestCellOf_25 : decode cX3_newestCellOf 25 = .ok (.isub, 1) := by decide +kernel
theorem dX3_newestCellOf_26 : decode cX3_newestCellOf 26 = .ok (.istore 6, 2) := by decide +kernel
theorem dX3_newestCellOf_28 : decode cX3_newestCellOf 28 = .ok (.iload 6, 2) := by decide +kernel
theorem dX3_newestCellOf_30 : decode cX3_newestCellOf 30 = .ok (.ifCond .lt 72, 3) := by decide +kernel
theorem dX3_newestCellOf_33 : decode cX3_newestCellOf 33 = .ok (.aload_n 1, 1) := by decide +kernel
theorem dX3_newestCellOf_34 : decode cX3_newestCellOf 34 = .ok (.iload 5, 2) := by decide +kernel
theorem dX3_newestCellOf_36 : decode cX3_newestCellOf 36 = .ok (.iload 6, 2) := by decide +kernel
theorem dX3_newestCellOf_38 : decode cX3_newestCellOf 38 = .ok (.invokevirtual 37, 3) := by decide +kernel
theorem dX3_newestCellOf_41 : decode cX3_newestCellOf 41 = .ok (.istore 7, 2) := by decide +kernel
theorem dX3_newestCellOf_43 : decode cX3_newestCellOf 43 = .ok (.iload_n 3, 1) := by decide +kernel
theorem dX3_newestCellOf_44 : decode cX3_newestCellOf 44 = .ok (.iconst (-1), 1) := by decide +kernel
theorem dX3_newestCellOf_45 : decode cX3_newestCellOf 45 = .ok (.if_icmp .eq 13, 3) := by decide +kernel
theorem dX3_newestCellOf_48 : decode cX3_newestCellOf 48 = .ok (.iload 7, 2) := by decide +kernel
theorem dX3_newestCellOf_50 : decode cX3_newestCellOf 50 = .ok (.invokestatic 82, 3) := by decide +kernel
theorem dX3_newestCellOf_53 : decode cX3_newestCellOf 53 = .ok (.iload 4, 2) := by decide +kernel
theorem dX3_newestCellOf_55 : decode cX3_newestCellOf 55 = .ok (.if_icmp .ge 7, 3) := by decide +kernel
theorem dX3_newestCellOf_58 : decode cX3_newestCellOf 58 = .ok (.iconst 1, 1) := by decide +kernel
theorem dX3_newestCellOf_59 : decode cX3_newestCellOf 59 = .ok (.goto 4, 3) := by decide +kernel
theorem dX3_newestCellOf_62 : decode cX3_newestCellOf 62 = .ok (.iconst 0, 1) := by decide +kernel
theorem dX3_newestCellOf_63 : decode cX3_newestCellOf 63 = .ok (.istore 8, 2) := by decide +kernel
theorem dX3_newestCellOf_65 : decode cX3_newestCellOf 65 = .ok (.iload 8, 2) := by decide +kernel
theorem dX3_newestCellOf_67 : decode cX3_newestCellOf 67 = .ok (.ifCond .eq 29, 3) := by decide +kernel
theorem dX3_newestCellOf_70 : decode cX3_newestCellOf 70 = .ok (.aload_n 0, 1) := by decide +kernel
theorem dX3_newestCellOf_71 : decode cX3_newestCellOf 71 = .ok (.aload_n 1, 1) := by decide +kernel
theorem dX3_newestCellOf_72 : decode cX3_newestCellOf 72 = .ok (.iload 5, 2) := by decide +kernel
theorem dX3_newestCellOf_74 : decode cX3_newestCellOf 74 = .ok (.iload 6, 2) := by decide +kernel
theorem dX3_newestCellOf_76 : decode cX3_newestCellOf 76 = .ok (.iload_n 2, 1) := by decide +kernel
theorem dX3_newestCellOf_77 : decode cX3_newestCellOf 77 = .ok (.invokestatic 57, 3) := by decide +kernel
theorem dX3_newestCellOf_80 : decode cX3_newestCellOf 80 = .ok (.ifCond .eq 16, 3) := by decide +kernel
theorem dX3_newestCellOf_83 : decode cX3_newestCellOf 83 = .ok (.iload 7, 2) := by decide +kernel
theorem dX3_newestCellOf_85 : decode cX3_newestCellOf 85 = .ok (.invokestatic 85, 3) := by decide +kernel
theorem dX3_newestCellOf_88 : decode cX3_newestCellOf 88 = .ok (.istore_n 3, 1) := by decide +kernel
theorem dX3_newestCellOf_89 : decode cX3_newestCellOf 89 = .ok (.iload 7, 2) := by decide +kernel
theorem dX3_newestCellOf_91 : decode cX3_newestCellOf 91 = .ok (.invokestatic 82, 3) := by decide +kernel
theorem dX3_newestCellOf_94 : decode cX3_newestCellOf 94 = .ok (.istore 4, 2) := by decide +kernel
theorem dX3_newestCellOf_96 : decode cX3_newestCellOf 96 = .ok (.iinc 6 (-1), 3) := by decide +kernel
theorem dX3_newestCellOf_99 : decode cX3_newestCellOf 99 = .ok (.goto (-71), 3) := by decide +kernel
theorem dX3_newestCellOf_102 : decode cX3_newestCellOf 102 = .ok (.iinc 5 1, 3) := by decide +kernel
theorem dX3_newestCellOf_105 : decode cX3_newestCellOf 105 = .ok (.goto (-97), 3) := by decide +kernel
theorem dX3_newestCellOf_108 : decode cX3_newestCellOf 108 = .ok (.iload_n 3, 1) := by decide +kernel
theorem dX3_newestCellOf_109 : decode cX3_newestCellOf 109 = .ok (.ireturn, 1) := by decide +kernel
theorem dX3_mostShamed_0 : decode cX3_mostShamed 0 = .ok (.iconst (-1), 1) := by decide +kernel
theorem dX3_mostShamed_1 : decode cX3_mostShamed 1 = .ok (.istore_n 2, 1) := by decide +kernel
theorem dX3_mostShamed_2 : decode cX3_mostShamed 2 = .ok (.iconst 0, 1) := by decide +kernel
theorem dX3_mostShamed_3 : decode cX3_mostShamed 3 = .ok (.istore_n 3, 1) := by decide +kernel
theorem dX3_mostShamed_4 : decode cX3_mostShamed 4 = .ok (.iconst 0, 1) := by decide +kernel
theorem dX3_mostShamed_5 : decode cX3_mostShamed 5 = .ok (.istore 4, 2) := by decide +kernel
theorem dX3_mostShamed_7 : decode cX3_mostShamed 7 = .ok (.iload 4, 2) := by decide +kernel
theorem dX3_mostShamed_9 : decode cX3_mostShamed 9 = .ok (.aload_n 0, 1) := by decide +kernel
theorem dX3_mostShamed_10 : decode cX3_mostShamed 10 = .ok (.getfield 88, 3) := by decide +kernel
theorem dX3_mostShamed_13 : decode cX3_mostShamed 13 = .ok (.if_icmp .ge 30, 3) := by decide +kernel
theorem dX3_mostShamed_16 : decode cX3_mostShamed 16 = .ok (.aload_n 0, 1) := by decide +kernel
theorem dX3_mostShamed_17 : decode cX3_mostShamed 17 = .ok (.aload_n 1, 1) := by decide +kernel
theorem dX3_mostShamed_18 : decode cX3_mostShamed 18 = .ok (.iload 4, 2) := by decide +kernel
theorem dX3_mostShamed_20 : decode cX3_mostShamed 20 = .ok (.invokestatic 91, 3) := by decide +kernel
theorem dX3_mostShamed_23 : decode cX3_mostShamed 23 = .ok (.istore 5, 2) := by decide +kernel
theorem dX3_mostShamed_25 : decode cX3_mostShamed 25 = .ok (.iload 5, 2) := by decide +kernel
theorem dX3_mostShamed_27 : decode cX3_mostShamed 27 = .ok (.iload_n 3, 1) := by decide +kernel
theorem dX3_mostShamed_28 : decode cX3_mostShamed 28 = .ok (.if_icmp .le 9, 3) := by decide +kernel
theorem dX3_mostShamed_31 : decode cX3_mostShamed 31 = .ok (.iload 4, 2) := by decide +kernel
theorem dX3_mostShamed_33 : decode cX3_mostShamed 33 = .ok (.istore_n 2, 1) := by decide +kernel
theorem dX3_mostShamed_34 : decode cX3_mostShamed 34 = .ok (.iload 5, 2) := by decide +kernel
theorem dX3_mostShamed_36 : decode cX3_mostShamed 36 = .ok (.istore_n 3, 1) := by decide +kernel
theorem dX3_mostShamed_37 : decode cX3_mostShamed 37 = .ok (.iinc 4 1, 3) := by decide +kernel
theorem dX3_mostShamed_40 : decode cX3_mostShamed 40 = .ok (.goto (-33), 3) := by decide +kernel
theorem dX3_mostShamed_43 : decode cX3_mostShamed 43 = .ok (.iload_n 2, 1) := by decide +kernel
theorem dX3_mostShamed_44 : decode cX3_mostShamed 44 = .ok (.ireturn, 1) := by decide +kernel
theorem dX3_paneOfGreatestAge_0 : decode cX3_paneOfGreatestAge 0 = .ok (.iconst (-1), 1) := by decide +kernel
theorem dX3_paneOfGreatestAge_1 : decode cX3_paneOfGreatestAge 1 = .ok (.istore_n 2, 1) := by decide +kernel
theorem dX3_paneOfGreatestAge_2 : decode cX3_paneOfGreatestAge 2 = .ok (.iconst (-1), 1) := by decide +kernel
theorem dX3_paneOfGreatestAge_3 : decode cX3_paneOfGreatestAge 3 = .ok (.istore_n 3, 1) := by decide +kernel
theorem dX3_paneOfGreatestAge_4 : decode cX3_paneOfGreatestAge 4 = .ok (.iconst 0, 1) := by decide +kernel
theorem dX3_paneOfGreatestAge_5 : decode cX3_paneOfGreatestAge 5 = .ok (.istore 4, 2) := by decide +kernel
theorem dX3_paneOfGreatestAge_7 : decode cX3_paneOfGreatestAge 7 = .ok (.iload 4, 2) := by decide +kernel
theorem dX3_paneOfGreatestAge_9 : decode cX3_paneOfGreatestAge 9 = .ok (.aload_n 0, 1) := by decide +kernel
theorem dX3_paneOfGreatestAge_10 : decode cX3_paneOfGreatestAge 10 = .ok (.getfield 19, 3) := by decide +kernel
theorem dX3_paneOfGreatestAge_13 : decode cX3_paneOfGreatestAge 13 = .ok (.if_icmp .ge 55, 3) := by decide +kernel
theorem dX3_paneOfGreatestAge_16 : decode cX3_paneOfGreatestAge 16 = .ok (.iconst 0, 1) := by decide +kernel
theorem dX3_paneOfGreatestAge_17 : decode cX3_paneOfGreatestAge 17 = .ok (.istore 5, 2) := by decide +kernel
theorem dX3_paneOfGreatestAge_19 : decode cX3_paneOfGreatestAge 19 = .ok (.iload 5, 2) := by decide +kernel
theorem dX3_paneOfGreatestAge_21 : decode cX3_paneOfGreatestAge 21 = .ok (.aload_n 1, 1) := by decide +kernel
theorem dX3_paneOfGreatestAge_22 : decode cX3_paneOfGreatestAge 22 = .ok (.getfield 28, 3) := by decide +kernel
theorem dX3_paneOfGreatestAge_25 : decode cX3_paneOfGreatestAge 25 = .ok (.iload 4, 2) := by decide +kernel
theorem dX3_paneOfGreatestAge_27 : decode cX3_paneOfGreatestAge 27 = .ok (.iaload, 1) := by decide +kernel
theorem dX3_paneOfGreatestAge_28 : decode cX3_paneOfGreatestAge 28 = .ok (.if_icmp .ge 34, 3) := by decide +kernel
theorem dX3_paneOfGreatestAge_31 : decode cX3_paneOfGreatestAge 31 = .ok (.aload_n 1, 1) := by decide +kernel
theorem dX3_paneOfGreatestAge_32 : decode cX3_paneOfGreatestAge 32 = .ok (.iload 4, 2) := by decide +kernel
theorem dX3_paneOfGreatestAge_34 : decode cX3_paneOfGreatestAge 34 = .ok (.iload 5, 2) := by decide +kernel
theorem dX3_paneOfGreatestAge_36 : decode cX3_paneOfGreatestAge 36 = .ok (.invokevirtual 37, 3) := by decide +kernel
theorem dX3_paneOfGreatestAge_39 : decode cX3_paneOfGreatestAge 39 = .ok (.invokestatic 82, 3) := by decide +kernel
theorem dX3_paneOfGreatestAge_42 : decode cX3_paneOfGreatestAge 42 = .ok (.istore 6, 2) := by decide +kernel
theorem dX3_paneOfGreatestAge_44 : decode cX3_paneOfGreatestAge 44 = .ok (.iload 6, 2) := by decide +kernel
theorem dX3_paneOfGreatestAge_46 : decode cX3_paneOfGreatestAge 46 = .ok (.iload_n 3, 1) := by decide +kernel
theorem dX3_paneOfGreatestAge_47 : decode cX3_paneOfGreatestAge 47 = .ok (.if_icmp .le 9, 3) := by decide +kernel
theorem dX3_paneOfGreatestAge_50 : decode cX3_paneOfGreatestAge 50 = .ok (.iload 4, 2) := by decide +kernel
theorem dX3_paneOfGreatestAge_52 : decode cX3_paneOfGreatestAge 52 = .ok (.istore_n 2, 1) := by decide +kernel
theorem dX3_paneOfGreatestAge_53 : decode cX3_paneOfGreatestAge 53 = .ok (.iload 6, 2) := by decide +kernel
theorem dX3_paneOfGreatestAge_55 : decode cX3_paneOfGreatestAge 55 = .ok (.istore_n 3, 1) := by decide +kernel
theorem dX3_paneOfGreatestAge_56 : decode cX3_paneOfGreatestAge 56 = .ok (.iinc 5 1, 3) := by decide +kernel
theorem dX3_paneOfGreatestAge_59 : decode cX3_paneOfGreatestAge 59 = .ok (.goto (-40), 3) := by decide +kernel
theorem dX3_paneOfGreatestAge_62 : decode cX3_paneOfGreatestAge 62 = .ok (.iinc 4 1, 3) := by decide +kernel
theorem dX3_paneOfGreatestAge_65 : decode cX3_paneOfGreatestAge 65 = .ok (.goto (-58), 3) := by decide +kernel
theorem dX3_paneOfGreatestAge_68 : decode cX3_paneOfGreatestAge 68 = .ok (.iload_n 2, 1) := by decide +kernel
theorem dX3_paneOfGreatestAge_69 : decode cX3_paneOfGreatestAge 69 = .ok (.ireturn, 1) := by decide +kernel
theorem dX3_alikeMarks_0 : decode cX3_alikeMarks 0 = .ok (.iconst 0, 1) := by decide +kernel
theorem dX3_alikeMarks_1 : decode cX3_alikeMarks 1 = .ok (.istore_n 3, 1) := by decide +kernel
theorem dX3_alikeMarks_2 : decode cX3_alikeMarks 2 = .ok (.iconst 0, 1) := by decide +kernel
theorem dX3_alikeMarks_3 : decode cX3_alikeMarks 3 = .ok (.istore 4, 2) := by decide +kernel
theorem dX3_alikeMarks_5 : decode cX3_alikeMarks 5 = .ok (.iload 4, 2) := by decide +kernel
theorem dX3_alikeMarks_7 : decode cX3_alikeMarks 7 = .ok (.aload_n 0, 1) := by decide +kernel
theorem dX3_alikeMarks_8 : decode cX3_alikeMarks 8 = .ok (.getfield 28, 3) := by decide +kernel
theorem dX3_alikeMarks_11 : decode cX3_alikeMarks 11 = .ok (.iload_n 1, 1) := by decide +kernel
theorem dX3_alikeMarks_12 : decode cX3_alikeMarks 12 = .ok (.iaload, 1) := by decide +kernel
theorem dX3_alikeMarks_13 : decode cX3_alikeMarks 13 = .ok (.if_icmp .ge 80, 3) := by decide +kernel
theorem dX3_alikeMarks_16 : decode cX3_alikeMarks 16 = .ok (.iconst 0, 1) := by decide +kernel
theorem dX3_alikeMarks_17 : decode cX3_alikeMarks 17 = .ok (.istore 5, 2) := by decide +kernel
theorem dX3_alikeMarks_19 : decode cX3_alikeMarks 19 = .ok (.iload 5, 2) := by decide +kernel
theorem dX3_alikeMarks_21 : decode cX3_alikeMarks 21 = .ok (.aload_n 0, 1) := by decide +kernel
theorem dX3_alikeMarks_22 : decode cX3_alikeMarks 22 = .ok (.getfield 28, 3) := by decide +kernel
theorem dX3_alikeMarks_25 : decode cX3_alikeMarks 25 = .ok (.iload_n 2, 1) := by decide +kernel
theorem dX3_alikeMarks_26 : decode cX3_alikeMarks 26 = .ok (.iaload, 1) := by decide +kernel
theorem dX3_alikeMarks_27 : decode cX3_alikeMarks 27 = .ok (.if_icmp .ge 60, 3) := by decide +kernel
theorem dX3_alikeMarks_30 : decode cX3_alikeMarks 30 = .ok (.iload_n 3, 1) := by decide +kernel
theorem dX3_alikeMarks_31 : decode cX3_alikeMarks 31 = .ok (.iload 5, 2) := by decide +kernel
theorem dX3_alikeMarks_33 : decode cX3_alikeMarks 33 = .ok (.ishr, 1) := by decide +kernel
theorem dX3_alikeMarks_34 : decode cX3_alikeMarks 34 = .ok (.iconst 1, 1) := by decide +kernel
theorem dX3_alikeMarks_35 : decode cX3_alikeMarks 35 = .ok (.iand, 1) := by decide +kernel
theorem dX3_alikeMarks_36 : decode cX3_alikeMarks 36 = .ok (.ifCond .ne 7, 3) := by decide +kernel
theorem dX3_alikeMarks_39 : decode cX3_alikeMarks 39 = .ok (.iconst 1, 1) := by decide +kernel
theorem dX3_alikeMarks_40 : decode cX3_alikeMarks 40 = .ok (.goto 4, 3) := by decide +kernel
theorem dX3_alikeMarks_43 : decode cX3_alikeMarks 43 = .ok (.iconst 0, 1) := by decide +kernel
theorem dX3_alikeMarks_44 : decode cX3_alikeMarks 44 = .ok (.istore 6, 2) := by decide +kernel
theorem dX3_alikeMarks_46 : decode cX3_alikeMarks 46 = .ok (.iload 6, 2) := by decide +kernel
theorem dX3_alikeMarks_48 : decode cX3_alikeMarks 48 = .ok (.ifCond .eq 33, 3) := by decide +kernel
theorem dX3_alikeMarks_51 : decode cX3_alikeMarks 51 = .ok (.aload_n 0, 1) := by decide +kernel
theorem dX3_alikeMarks_52 : decode cX3_alikeMarks 52 = .ok (.iload_n 1, 1) := by decide +kernel
theorem dX3_alikeMarks_53 : decode cX3_alikeMarks 53 = .ok (.iload 4, 2) := by decide +kernel
theorem dX3_alikeMarks_55 : decode cX3_alikeMarks 55 = .ok (.invokevirtual 37, 3) := by decide +kernel
theorem dX3_alikeMarks_58 : decode cX3_alikeMarks 58 = .ok (.aload_n 0, 1) := by decide +kernel
theorem dX3_alikeMarks_59 : decode cX3_alikeMarks 59 = .ok (.iload_n 2, 1) := by decide +kernel
theorem dX3_alikeMarks_60 : decode cX3_alikeMarks 60 = .ok (.iload 5, 2) := by decide +kernel
theorem dX3_alikeMarks_62 : decode cX3_alikeMarks 62 = .ok (.invokevirtual 37, 3) := by decide +kernel
theorem dX3_alikeMarks_65 : decode cX3_alikeMarks 65 = .ok (.invokestatic 95, 3) := by decide +kernel
theorem dX3_alikeMarks_68 : decode cX3_alikeMarks 68 = .ok (.ifCond .eq 13, 3) := by decide +kernel
theorem dX3_alikeMarks_71 : decode cX3_alikeMarks 71 = .ok (.iload_n 3, 1) := by decide +kernel
theorem dX3_alikeMarks_72 : decode cX3_alikeMarks 72 = .ok (.iconst 1, 1) := by decide +kernel
theorem dX3_alikeMarks_73 : decode cX3_alikeMarks 73 = .ok (.iload 5, 2) := by decide +kernel
theorem dX3_alikeMarks_75 : decode cX3_alikeMarks 75 = .ok (.ishl, 1) := by decide +kernel
theorem dX3_alikeMarks_76 : decode cX3_alikeMarks 76 = .ok (.ior, 1) := by decide +kernel
theorem dX3_alikeMarks_77 : decode cX3_alikeMarks 77 = .ok (.istore_n 3, 1) := by decide +kernel
theorem dX3_alikeMarks_78 : decode cX3_alikeMarks 78 = .ok (.goto 9, 3) := by decide +kernel
theorem dX3_alikeMarks_81 : decode cX3_alikeMarks 81 = .ok (.iinc 5 1, 3) := by decide +kernel
theorem dX3_alikeMarks_84 : decode cX3_alikeMarks 84 = .ok (.goto (-65), 3) := by decide +kernel
theorem dX3_alikeMarks_87 : decode cX3_alikeMarks 87 = .ok (.iinc 4 1, 3) := by decide +kernel
theorem dX3_alikeMarks_90 : decode cX3_alikeMarks 90 = .ok (.goto (-85), 3) := by decide +kernel
theorem dX3_alikeMarks_93 : decode cX3_alikeMarks 93 = .ok (.iload_n 3, 1) := by decide +kernel
theorem dX3_alikeMarks_94 : decode cX3_alikeMarks 94 = .ok (.invokestatic 98, 3) := by decide +kernel
theorem dX3_alikeMarks_97 : decode cX3_alikeMarks 97 = .ok (.ireturn, 1) := by decide +kernel
theorem dX4_init_0 : decode cX4_init 0 = .ok (.aload_n 0, 1) := by decide +kernel
theorem dX4_init_1 : decode cX4_init 1 = .ok (.invokespecial 1, 3) := by decide +kernel
theorem dX4_init_4 : decode cX4_init 4 = .ok (.aload_n 0, 1) := by decide +kernel
theorem dX4_init_5 : decode cX4_init 5 = .ok (.bipush 16, 2) := by decide +kernel
theorem dX4_init_7 : decode cX4_init 7 = .ok (.anewarray 9, 3) := by decide +kernel
theorem dX4_init_10 : decode cX4_init 10 = .ok (.putfield 11, 3) := by decide +kernel
theorem dX4_init_13 : decode cX4_init 13 = .ok (.aload_n 0, 1) := by decide +kernel
theorem dX4_init_14 : decode cX4_init 14 = .ok (.iconst 0, 1) := by decide +kernel
theorem dX4_init_15 : decode cX4_init 15 = .ok (.putfield 15, 3) := by decide +kernel
theorem dX4_init_18 : decode cX4_init 18 = .ok (.aload_n 0, 1) := by decide +kernel
theorem dX4_init_19 : decode cX4_init 19 = .ok (.iconst 0, 1) := by decide +kernel
theorem dX4_init_20 : decode cX4_init 20 = .ok (.putfield 19, 3) := by decide +kernel
theorem dX4_init_23 : decode cX4_init 23 = .ok (.iconst 0, 1) := by decide +kernel
theorem dX4_init_24 : decode cX4_init 24 = .ok (.istore_n 1, 1) := by decide +kernel
theorem dX4_init_25 : decode cX4_init 25 = .ok (.iload_n 1, 1) := by decide +kernel
theorem dX4_init_26 : decode cX4_init 26 = .ok (.bipush 16, 2) := by decide +kernel
theorem dX4_init_28 : decode cX4_init 28 = .ok (.if_icmp .ge 22, 3) := by decide +kernel
theorem dX4_init_31 : decode cX4_init 31 = .ok (.aload_n 0, 1) := by decide +kernel
theorem dX4_init_32 : decode cX4_init 32 = .ok (.getfield 11, 3) := by decide +kernel
theorem dX4_init_35 : decode cX4_init 35 = .ok (.iload_n 1, 1) := by decide +kernel
theorem dX4_init_36 : decode cX4_init 36 = .ok (.new 9, 3) := by decide +kernel
theorem dX4_init_39 : decode cX4_init 39 = .ok (.dup, 1) := by decide +kernel
theorem dX4_init_40 : decode cX4_init 40 = .ok (.invokespecial 22, 3) := by decide +kernel
theorem dX4_init_43 : decode cX4_init 43 = .ok (.aastore, 1) := by decide +kernel
theorem dX4_init_44 : decode cX4_init 44 = .ok (.iinc 1 1, 3) := by decide +kernel
theorem dX4_init_47 : decode cX4_init 47 = .ok (.goto (-22), 3) := by decide +kernel
theorem dX4_init_50 : decode cX4_init 50 = .ok (.return_, 1) := by decide +kernel
theorem dX4_clear_0 : decode cX4_clear 0 = .ok (.aload_n 0, 1) := by decide +kernel
theorem dX4_clear_1 : decode cX4_clear 1 = .ok (.iconst 0, 1) := by decide +kernel
theorem dX4_clear_2 : decode cX4_clear 2 = .ok (.putfield 15, 3) := by decide +kernel
theorem dX4_clear_5 : decode cX4_clear 5 = .ok (.return_, 1) := by decide +kernel
theorem dX4_keep_0 : decode cX4_keep 0 = .ok (.aload_n 0, 1) := by decide +kernel
theorem dX4_keep_1 : decode cX4_keep 1 = .ok (.getfield 11, 3) := by decide +kernel
theorem dX4_keep_4 : decode cX4_keep 4 = .ok (.aload_n 0, 1) := by decide +kernel
theorem dX4_keep_5 : decode cX4_keep 5 = .ok (.getfield 19, 3) := by decide +kernel
theorem dX4_keep_8 : decode cX4_keep 8 = .ok (.aaload, 1) := by decide +kernel
theorem dX4_keep_9 : decode cX4_keep 9 = .ok (.aload_n 1, 1) := by decide +kernel
theorem dX4_keep_10 : decode cX4_keep 10 = .ok (.invokevirtual 23, 3) := by decide +kernel
theorem dX4_keep_13 : decode cX4_keep 13 = .ok (.aload_n 0, 1) := by decide +kernel
theorem dX4_keep_14 : decode cX4_keep 14 = .ok (.aload_n 0, 1) := by decide +kernel
theorem dX4_keep_15 : decode cX4_keep 15 = .ok (.getfield 19, 3) := by decide +kernel
theorem dX4_keep_18 : decode cX4_keep 18 = .ok (.iconst 1, 1) := by decide +kernel
theorem dX4_keep_19 : decode cX4_keep 19 = .ok (.iadd, 1) := by decide +kernel
theorem dX4_keep_20 : decode cX4_keep 20 = .ok (.bipush 16, 2) := by decide +kernel
theorem dX4_keep_22 : decode cX4_keep 22 = .ok (.irem, 1) := by decide +kernel
theorem dX4_keep_23 : decode cX4_keep 23 = .ok (.putfield 19, 3) := by decide +kernel
theorem dX4_keep_26 : decode cX4_keep 26 = .ok (.aload_n 0, 1) := by decide +kernel
theorem dX4_keep_27 : decode cX4_keep 27 = .ok (.aload_n 0, 1) := by decide +kernel
theorem dX4_keep_28 : decode cX4_keep 28 = .ok (.getfield 15, 3) := by decide +kernel
theorem dX4_keep_31 : decode cX4_keep 31 = .ok (.iconst 1, 1) := by decide +kernel
theorem dX4_keep_32 : decode cX4_keep 32 = .ok (.iadd, 1) := by decide +kernel
theorem dX4_keep_33 : decode cX4_keep 33 = .ok (.bipush 16, 2) := by decide +kernel
theorem dX4_keep_35 : decode cX4_keep 35 = .ok (.invokestatic 27, 3) := by decide +kernel
theorem dX4_keep_38 : decode cX4_keep 38 = .ok (.putfield 15, 3) := by decide +kernel
theorem dX4_keep_41 : decode cX4_keep 41 = .ok (.return_, 1) := by decide +kernel
theorem dX4_takeBack_0 : decode cX4_takeBack 0 = .ok (.aload_n 0, 1) := by decide +kernel
theorem dX4_takeBack_1 : decode cX4_takeBack 1 = .ok (.getfield 15, 3) := by decide +kernel
theorem dX4_takeBack_4 : decode cX4_takeBack 4 = .ok (.ifCond .ne 5, 3) := by decide +kernel
theorem dX4_takeBack_7 : decode cX4_takeBack 7 = .ok (.iconst 0, 1) := by decide +kernel
theorem dX4_takeBack_8 : decode cX4_takeBack 8 = .ok (.ireturn, 1) := by decide +kernel
theorem dX4_takeBack_9 : decode cX4_takeBack 9 = .ok (.aload_n 0, 1) := by decide +kernel
theorem dX4_takeBack_10 : decode cX4_takeBack 10 = .ok (.aload_n 0, 1) := by decide +kernel
theorem dX4_takeBack_11 : decode cX4_takeBack 11 = .ok (.getfield 19, 3) := by decide +kernel
theorem dX4_takeBack_14 : decode cX4_takeBack 14 = .ok (.bipush 16, 2) := by decide +kernel
theorem dX4_takeBack_16 : decode cX4_takeBack 16 = .ok (.iadd, 1) := by decide +kernel
theorem dX4_takeBack_17 : decode cX4_takeBack 17 = .ok (.iconst 1, 1) := by decide +kernel
theorem dX4_takeBack_18 : decode cX4_takeBack 18 = .ok (.isub, 1) := by decide +kernel
theorem dX4_takeBack_19 : decode cX4_takeBack 19 = .ok (.bipush 16, 2) := by decide +kernel
theorem dX4_takeBack_21 : decode cX4_takeBack 21 = .ok (.irem, 1) := by decide +kernel
theorem dX4_takeBack_22 : decode cX4_takeBack 22 = .ok (.putfield 19, 3) := by decide +kernel
theorem dX4_takeBack_25 : decode cX4_takeBack 25 = .ok (.aload_n 0, 1) := by decide +kernel
theorem dX4_takeBack_26 : decode cX4_takeBack 26 = .ok (.dup, 1) := by decide +kernel
theorem dX4_takeBack_27 : decode cX4_takeBack 27 = .ok (.getfield 15, 3) := by decide +kernel
theorem dX4_takeBack_30 : decode cX4_takeBack 30 = .ok (.iconst 1, 1) := by decide +kernel
theorem dX4_takeBack_31 : decode cX4_takeBack 31 = .ok (.isub, 1) := by decide +kernel
theorem dX4_takeBack_32 : decode cX4_takeBack 32 = .ok (.putfield 15, 3) := by decide +kernel
theorem dX4_takeBack_35 : decode cX4_takeBack 35 = .ok (.aload_n 1, 1) := by decide +kernel
theorem dX4_takeBack_36 : decode cX4_takeBack 36 = .ok (.aload_n 0, 1) := by decide +kernel
theorem dX4_takeBack_37 : decode cX4_takeBack 37 = .ok (.getfield 11, 3) := by decide +kernel
theorem dX4_takeBack_40 : decode cX4_takeBack 40 = .ok (.aload_n 0, 1) := by decide +kernel
theorem dX4_takeBack_41 : decode cX4_takeBack 41 = .ok (.getfield 19, 3) := by decide +kernel
theorem dX4_takeBack_44 : decode cX4_takeBack 44 = .ok (.aaload, 1) := by decide +kernel
theorem dX4_takeBack_45 : decode cX4_takeBack 45 = .ok (.invokevirtual 23, 3) := by decide +kernel
theorem dX4_takeBack_48 : decode cX4_takeBack 48 = .ok (.iconst 1, 1) := by decide +kernel
theorem dX4_takeBack_49 : decode cX4_takeBack 49 = .ok (.ireturn, 1) := by decide +kernel
theorem dX5_init_0 : decode cX5_init 0 = .ok (.aload_n 0, 1) := by decide +kernel
theorem dX5_init_1 : decode cX5_init 1 = .ok (.invokespecial 3, 3) := by decide +kernel
theorem dX5_init_4 : decode cX5_init 4 = .ok (.aload_n 0, 1) := by decide +kernel
theorem dX5_init_5 : decode cX5_init 5 = .ok (.sipush 1000, 3) := by decide +kernel
theorem dX5_init_8 : decode cX5_init 8 = .ok (.newarray .int, 2) := by decide +kernel
theorem dX5_init_10 : decode cX5_init 10 = .ok (.putfield 11, 3) := by decide +kernel
theorem dX5_init_13 : decode cX5_init 13 = .ok (.aload_n 0, 1) := by decide +kernel
theorem dX5_init_14 : decode cX5_init 14 = .ok (.bipush 32, 2) := by decide +kernel
theorem dX5_init_16 : decode cX5_init 16 = .ok (.newarray .int, 2) := by decide +kernel
theorem dX5_init_18 : decode cX5_init 18 = .ok (.putfield 17, 3) := by decide +kernel
theorem dX5_init_21 : decode cX5_init 21 = .ok (.aload_n 0, 1) := by decide +kernel
theorem dX5_init_22 : decode cX5_init 22 = .ok (.iconst 0, 1) := by decide +kernel
theorem dX5_init_23 : decode cX5_init 23 = .ok (.putfield 20, 3) := by decide +kernel
theorem dX5_init_26 : decode cX5_init 26 = .ok (.return_, 1) := by decide +kernel
theorem dX5_clear_0 : decode cX5_clear 0 = .ok (.aload_n 0, 1) := by decide +kernel
theorem dX5_clear_1 : decode cX5_clear 1 = .ok (.iconst 0, 1) := by decide +kernel
theorem dX5_clear_2 : decode cX5_clear 2 = .ok (.putfield 20, 3) := by decide +kernel
theorem dX5_clear_5 : decode cX5_clear 5 = .ok (.return_, 1) := by decide +kernel
theorem dX5_add_0 : decode cX5_add 0 = .ok (.aload_n 0, 1) := by decide +kernel
theorem dX5_add_1 : decode cX5_add 1 = .ok (.getfield 20, 3) := by decide +kernel
theorem dX5_add_4 : decode cX5_add 4 = .ok (.aload_n 0, 1) := by decide +kernel
theorem dX5_add_5 : decode cX5_add 5 = .ok (.getfield 11, 3) := by decide +kernel
theorem dX5_add_8 : decode cX5_add 8 = .ok (.arraylength, 1) := by decide +kernel
theorem dX5_add_9 : decode cX5_add 9 = .ok (.if_icmp .ge 23, 3) := by decide +kernel
theorem dX5_add_12 : decode cX5_add 12 = .ok (.aload_n 0, 1) := by decide +kernel
theorem dX5_add_13 : decode cX5_add 13 = .ok (.getfield 11, 3) := by decide +kernel
theorem dX5_add_16 : decode cX5_add 16 = .ok (.aload_n 0, 1) := by decide +kernel
theorem dX5_add_17 : decode cX5_add 17 = .ok (.getfield 20, 3) := by decide +kernel
theorem dX5_add_20 : decode cX5_add 20 = .ok (.iload_n 1, 1) := by decide +kernel
theorem dX5_add_21 : decode cX5_add 21 = .ok (.iastore, 1) := by decide +kernel
theorem dX5_add_22 : decode cX5_add 22 = .ok (.aload_n 0, 1) := by decide +kernel
theorem dX5_add_23 : decode cX5_add 23 = .ok (.dup, 1) := by decide +kernel
theorem dX5_add_24 : decode cX5_add 24 = .ok (.getfield 20, 3) := by decide +kernel
theorem dX5_add_27 : decode cX5_add 27 = .ok (.iconst 1, 1) := by decide +kernel
theorem dX5_add_28 : decode cX5_add 28 = .ok (.iadd, 1) := by decide +kernel
theorem dX5_add_29 : decode cX5_add 29 = .ok (.putfield 20, 3) := by decide +kernel
theorem dX5_add_32 : decode cX5_add 32 = .ok (.return_, 1) := by decide +kernel
theorem dX5_readsLevel_0 : decode cX5_readsLevel 0 = .ok (.iload_n 2, 1) := by decide +kernel
theorem dX5_readsLevel_1 : decode cX5_readsLevel 1 = .ok (.iconst 4, 1) := by decide +kernel
theorem dX5_readsLevel_2 : decode cX5_readsLevel 2 = .ok (.if_icmp .lt 10, 3) := by decide +kernel
theorem dX5_readsLevel_5 : decode cX5_readsLevel 5 = .ok (.aload_n 0, 1) := by decide +kernel
theorem dX5_readsLevel_6 : decode cX5_readsLevel 6 = .ok (.aload_n 1, 1) := by decide +kernel
theorem dX5_readsLevel_7 : decode cX5_readsLevel 7 = .ok (.iload_n 3, 1) := by decide +kernel
theorem dX5_readsLevel_8 : decode cX5_readsLevel 8 = .ok (.invokevirtual 24, 3) := by decide +kernel
theorem dX5_readsLevel_11 : decode cX5_readsLevel 11 = .ok (.ireturn, 1) := by decide +kernel
theorem dX5_readsLevel_12 : decode cX5_readsLevel 12 = .ok (.aload_n 0, 1) := by decide +kernel
theorem dX5_readsLevel_13 : decode cX5_readsLevel 13 = .ok (.aload_n 1, 1) := by decide +kernel
theorem dX5_readsLevel_14 : decode cX5_readsLevel 14 = .ok (.iload_n 2, 1) := by decide +kernel
theorem dX5_readsLevel_15 : decode cX5_readsLevel 15 = .ok (.iconst 1, 1) := by decide +kernel
theorem dX5_readsLevel_16 : decode cX5_readsLevel 16 = .ok (.iadd, 1) := by decide +kernel
theorem dX5_readsLevel_17 : decode cX5_readsLevel 17 = .ok (.iload_n 3, 1) := by decide +kernel
theorem dX5_readsLevel_18 : decode cX5_readsLevel 18 = .ok (.invokevirtual 28, 3) := by decide +kernel
theorem dX5_readsLevel_21 : decode cX5_readsLevel 21 = .ok (.ifCond .ne 5, 3) := by decide +kernel
theorem dX5_readsLevel_24 : decode cX5_readsLevel 24 = .ok (.iconst 0, 1) := by decide +kernel
theorem dX5_readsLevel_25 : decode cX5_readsLevel 25 = .ok (.ireturn, 1) := by decide +kernel
theorem dX5_readsLevel_26 : decode cX5_readsLevel 26 = .ok (.iload_n 2, 1) := by decide +kernel
theorem dX5_readsLevel_27 : decode cX5_readsLevel 27 = .ok (.iconst 1, 1) := by decide +kernel
theorem dX5_readsLevel_28 : decode cX5_readsLevel 28 = .ok (.if_icmp .ne 7, 3) := by decide +kernel
theorem dX5_readsLevel_31 : decode cX5_readsLevel 31 = .ok (.iconst 1, 1) := by decide +kernel
theorem dX5_readsLevel_32 : decode cX5_readsLevel 32 = .ok (.goto 6, 3) := by decide +kernel
theorem dX5_readsLevel_35 : decode cX5_readsLevel 35 = .ok (.sipush 1000, 3) := by decide +kernel
theorem dX5_readsLevel_38 : decode cX5_readsLevel 38 = .ok (.istore 4, 2) := by decide +kernel
theorem dX5_readsLevel_40 : decode cX5_readsLevel 40 = .ok (.iconst 0, 1) := by decide +kernel
theorem dX5_readsLevel_41 : decode cX5_readsLevel 41 = .ok (.istore 5, 2) := by decide +kernel
theorem dX5_readsLevel_43 : decode cX5_readsLevel 43 = .ok (.iload 5, 2) := by decide +kernel
theorem dX5_readsLevel_45 : decode cX5_readsLevel 45 = .ok (.iload 4, 2) := by decide +kernel
theorem dX5_readsLevel_47 : decode cX5_readsLevel 47 = .ok (.if_icmp .ge 47, 3) := by decide +kernel
theorem dX5_readsLevel_50 : decode cX5_readsLevel 50 = .ok (.aload_n 1, 1) := by decide +kernel
theorem dX5_readsLevel_51 : decode cX5_readsLevel 51 = .ok (.iload_n 2, 1) := by decide +kernel
theorem dX5_readsLevel_52 : decode cX5_readsLevel 52 = .ok (.invokestatic 32, 3) := by decide +kernel
theorem dX5_readsLevel_55 : decode cX5_readsLevel 55 = .ok (.istore 6, 2) := by decide +kernel
theorem dX5_readsLevel_57 : decode cX5_readsLevel 57 = .ok (.iload 6, 2) := by decide +kernel
theorem dX5_readsLevel_59 : decode cX5_readsLevel 59 = .ok (.ifCond .ne 5, 3) := by decide +kernel
theorem dX5_readsLevel_62 : decode cX5_readsLevel 62 = .ok (.iconst 1, 1) := by decide +kernel
theorem dX5_readsLevel_63 : decode cX5_readsLevel 63 = .ok (.ireturn, 1) := by decide +kernel
theorem dX5_readsLevel_64 : decode cX5_readsLevel 64 = .ok (.aload_n 1, 1) := by decide +kernel
theorem dX5_readsLevel_65 : decode cX5_readsLevel 65 = .ok (.invokevirtual 36, 3) := by decide +kernel
theorem dX5_readsLevel_68 : decode cX5_readsLevel 68 = .ok (.aload_n 0, 1) := by decide +kernel
theorem dX5_readsLevel_69 : decode cX5_readsLevel 69 = .ok (.aload_n 1, 1) := by decide +kernel
theorem dX5_readsLevel_70 : decode cX5_readsLevel 70 = .ok (.iload_n 2, 1) := by decide +kernel
theorem dX5_readsLevel_71 : decode cX5_readsLevel 71 = .ok (.iconst 1, 1) := by decide +kernel
theorem dX5_readsLevel_72 : decode cX5_readsLevel 72 = .ok (.iadd, 1) := by decide +kernel
theorem dX5_readsLevel_73 : decode cX5_readsLevel 73 = .ok (.iload_n 3, 1) := by decide +kernel
theorem dX5_readsLevel_74 : decode cX5_readsLevel 74 = .ok (.invokevirtual 28, 3) := by decide +kernel
theorem dX5_readsLevel_77 : decode cX5_readsLevel 77 = .ok (.ifCond .ne 5, 3) := by decide +kernel
theorem dX5_readsLevel_80 : decode cX5_readsLevel 80 = .ok (.iconst 0, 1) := by decide +kernel
theorem dX5_readsLevel_81 : decode cX5_readsLevel 81 = .ok (.ireturn, 1) := by decide +kernel
theorem dX5_readsLevel_82 : decode cX5_readsLevel 82 = .ok (.aload_n 0, 1) := by decide +kernel
theorem dX5_readsLevel_83 : decode cX5_readsLevel 83 = .ok (.iload 6, 2) := by decide +kernel
theorem dX5_readsLevel_85 : decode cX5_readsLevel 85 = .ok (.invokevirtual 39, 3) := by decide +kernel
theorem dX5_readsLevel_88 : decode cX5_readsLevel 88 = .ok (.iinc 5 1, 3) := by decide +kernel
theorem dX5_readsLevel_91 : decode cX5_readsLevel 91 = .ok (.goto (-48), 3) := by decide +kernel
theorem dX5_readsLevel_94 : decode cX5_readsLevel 94 = .ok (.iconst 1, 1) := by decide +kernel
theorem dX5_readsLevel_95 : decode cX5_readsLevel 95 = .ok (.ireturn, 1) := by decide +kernel
theorem dX5_joinAt_0 : decode cX5_joinAt 0 = .ok (.iload_n 1, 1) := by decide +kernel
theorem dX5_joinAt_1 : decode cX5_joinAt 1 = .ok (.tableswitch 137 0 3 #[31, 61, 91, 121], 31) := by decide +kernel
theorem dX5_joinAt_32 : decode cX5_joinAt 32 = .ok (.aload_n 0, 1) := by decide +kernel
theorem dX5_joinAt_33 : decode cX5_joinAt 33 = .ok (.getfield 43, 3) := by decide +kernel
theorem dX5_joinAt_36 : decode cX5_joinAt 36 = .ok (.bipush 20, 2) := by decide +kernel
theorem dX5_joinAt_38 : decode cX5_joinAt 38 = .ok (.if_icmp .ne 8, 3) := by decide +kernel
theorem dX5_joinAt_41 : decode cX5_joinAt 41 = .ok (.bipush (-6), 2) := by decide +kernel
theorem dX5_joinAt_43 : decode cX5_joinAt 43 = .ok (.goto 18, 3) := by decide +kernel
theorem dX5_joinAt_46 : decode cX5_joinAt 46 = .ok (.aload_n 0, 1) := by decide +kernel
theorem dX5_joinAt_47 : decode cX5_joinAt 47 = .ok (.getfield 43, 3) := by decide +kernel
theorem dX5_joinAt_50 : decode cX5_joinAt 50 = .ok (.bipush 21, 2) := by decide +kernel
theorem dX5_joinAt_52 : decode cX5_joinAt 52 = .ok (.if_icmp .ne 8, 3) := by decide +kernel
theorem dX5_joinAt_55 : decode cX5_joinAt 55 = .ok (.bipush (-7), 2) := by decide +kernel
theorem dX5_joinAt_57 : decode cX5_joinAt 57 = .ok (.goto 4, 3) := by decide +kernel
theorem dX5_joinAt_60 : decode cX5_joinAt 60 = .ok (.iconst 0, 1) := by decide +kernel
theorem dX5_joinAt_61 : decode cX5_joinAt 61 = .ok (.ireturn, 1) := by decide +kernel
theorem dX5_joinAt_62 : decode cX5_joinAt 62 = .ok (.aload_n 0, 1) := by decide +kernel
theorem dX5_joinAt_63 : decode cX5_joinAt 63 = .ok (.bipush 60, 2) := by decide +kernel
theorem dX5_joinAt_65 : decode cX5_joinAt 65 = .ok (.invokevirtual 46, 3) := by decide +kernel
theorem dX5_joinAt_68 : decode cX5_joinAt 68 = .ok (.ifCond .eq 8, 3) := by decide +kernel
theorem dX5_joinAt_71 : decode cX5_joinAt 71 = .ok (.bipush (-8), 2) := by decide +kernel
theorem dX5_joinAt_73 : decode cX5_joinAt 73 = .ok (.goto 18, 3) := by decide +kernel
theorem dX5_joinAt_76 : decode cX5_joinAt 76 = .ok (.aload_n 0, 1) := by decide +kernel
theorem dX5_joinAt_77 : decode cX5_joinAt 77 = .ok (.bipush 61, 2) := by decide +kernel
theorem dX5_joinAt_79 : decode cX5_joinAt 79 = .ok (.invokevirtual 46, 3) := by decide +kernel
theorem dX5_joinAt_82 : decode cX5_joinAt 82 = .ok (.ifCond .eq 8, 3) := by decide +kernel
theorem dX5_joinAt_85 : decode cX5_joinAt 85 = .ok (.bipush (-9), 2) := by decide +kernel
theorem dX5_joinAt_87 : decode cX5_joinAt 87 = .ok (.goto 4, 3) := by decide +kernel
theorem dX5_joinAt_90 : decode cX5_joinAt 90 = .ok (.iconst 0, 1) := by decide +kernel
theorem dX5_joinAt_91 : decode cX5_joinAt 91 = .ok (.ireturn, 1) := by decide +kernel
theorem dX5_joinAt_92 : decode cX5_joinAt 92 = .ok (.aload_n 0, 1) := by decide +kernel
theorem dX5_joinAt_93 : decode cX5_joinAt 93 = .ok (.bipush 43, 2) := by decide +kernel
theorem dX5_joinAt_95 : decode cX5_joinAt 95 = .ok (.invokevirtual 46, 3) := by decide +kernel
theorem dX5_joinAt_98 : decode cX5_joinAt 98 = .ok (.ifCond .eq 8, 3) := by decide +kernel
theorem dX5_joinAt_101 : decode cX5_joinAt 101 = .ok (.bipush (-10), 2) := by decide +kernel
theorem dX5_joinAt_103 : decode cX5_joinAt 103 = .ok (.goto 18, 3) := by decide +kernel
theorem dX5_joinAt_106 : decode cX5_joinAt 106 = .ok (.aload_n 0, 1) := by decide +kernel
theorem dX5_joinAt_107 : decode cX5_joinAt 107 = .ok (.bipush 45, 2) := by decide +kernel
theorem dX5_joinAt_109 : decode cX5_joinAt 109 = .ok (.invokevirtual 46, 3) := by decide +kernel
theorem dX5_joinAt_112 : decode cX5_joinAt 112 = .ok (.ifCond .eq 8, 3) := by decide +kernel
theorem dX5_joinAt_115 : decode cX5_joinAt 115 = .ok (.bipush (-11), 2) := by decide +kernel
theorem dX5_joinAt_117 : decode cX5_joinAt 117 = .ok (.goto 4, 3) := by decide +kernel
theorem dX5_joinAt_120 : decode cX5_joinAt 120 = .ok (.iconst 0, 1) := by decide +kernel
theorem dX5_joinAt_121 : decode cX5_joinAt 121 = .ok (.ireturn, 1) := by decide +kernel
theorem dX5_joinAt_122 : decode cX5_joinAt 122 = .ok (.aload_n 0, 1) := by decide +kernel
theorem dX5_joinAt_123 : decode cX5_joinAt 123 = .ok (.bipush 42, 2) := by decide +kernel
theorem dX5_joinAt_125 : decode cX5_joinAt 125 = .ok (.invokevirtual 46, 3) := by decide +kernel
theorem dX5_joinAt_128 : decode cX5_joinAt 128 = .ok (.ifCond .eq 8, 3) := by decide +kernel
theorem dX5_joinAt_131 : decode cX5_joinAt 131 = .ok (.bipush (-12), 2) := by decide +kernel
theorem dX5_joinAt_133 : decode cX5_joinAt 133 = .ok (.goto 4, 3) := by decide +kernel
theorem dX5_joinAt_136 : decode cX5_joinAt 136 = .ok (.iconst 0, 1) := by decide +kernel
theorem dX5_joinAt_137 : decode cX5_joinAt 137 = .ok (.ireturn, 1) := by decide +kernel
theorem dX5_joinAt_138 : decode cX5_joinAt 138 = .ok (.iconst 0, 1) := by decide +kernel
theorem dX5_joinAt_139 : decode cX5_joinAt 139 = .ok (.ireturn, 1) := by decide +kernel
theorem dX5_readsPart_0 : decode cX5_readsPart 0 = .ok (.aload_n 1, 1) := by decide +kernel
theorem dX5_readsPart_1 : decode cX5_readsPart 1 = .ok (.ldc 50, 2) := by decide +kernel
theorem dX5_readsPart_3 : decode cX5_readsPart 3 = .ok (.invokevirtual 52, 3) := by decide +kernel
theorem dX5_readsPart_6 : decode cX5_readsPart 6 = .ok (.istore_n 3, 1) := by decide +kernel
theorem dX5_readsPart_7 : decode cX5_readsPart 7 = .ok (.aload_n 1, 1) := by decide +kernel
theorem dX5_readsPart_8 : decode cX5_readsPart 8 = .ok (.getfield 43, 3) := by decide +kernel
theorem dX5_readsPart_11 : decode cX5_readsPart 11 = .ok (.bipush 19, 2) := by decide +kernel
theorem dX5_readsPart_13 : decode cX5_readsPart 13 = .ok (.if_icmp .ne 7, 3) := by decide +kernel
theorem dX5_readsPart_16 : decode cX5_readsPart 16 = .ok (.iconst 1, 1) := by decide +kernel
theorem dX5_readsPart_17 : decode cX5_readsPart 17 = .ok (.goto 4, 3) := by decide +kernel
theorem dX5_readsPart_20 : decode cX5_readsPart 20 = .ok (.iconst 0, 1) := by decide +kernel
theorem dX5_readsPart_21 : decode cX5_readsPart 21 = .ok (.istore 4, 2) := by decide +kernel
theorem dX5_readsPart_23 : decode cX5_readsPart 23 = .ok (.aload_n 1, 1) := by decide +kernel
theorem dX5_readsPart_24 : decode cX5_readsPart 24 = .ok (.bipush 40, 2) := by decide +kernel
theorem dX5_readsPart_26 : decode cX5_readsPart 26 = .ok (.invokevirtual 46, 3) := by decide +kernel
theorem dX5_readsPart_29 : decode cX5_readsPart 29 = .ok (.istore 5, 2) := by decide +kernel
theorem dX5_readsPart_31 : decode cX5_readsPart 31 = .ok (.aload_n 1, 1) := by decide +kernel
theorem dX5_readsPart_32 : decode cX5_readsPart 32 = .ok (.invokevirtual 56, 3) := by decide +kernel
theorem dX5_readsPart_35 : decode cX5_readsPart 35 = .ok (.ifCond .ne 24, 3) := by decide +kernel
theorem dX5_readsPart_38 : decode cX5_readsPart 38 = .ok (.iload_n 3, 1) := by decide +kernel
theorem dX5_readsPart_39 : decode cX5_readsPart 39 = .ok (.iconst (-1), 1) := by decide +kernel
theorem dX5_readsPart_40 : decode cX5_readsPart 40 = .ok (.if_icmp .ne 19, 3) := by decide +kernel
theorem dX5_readsPart_43 : decode cX5_readsPart 43 = .ok (.iload 4, 2) := by decide +kernel
theorem dX5_readsPart_45 : decode cX5_readsPart 45 = .ok (.ifCond .ne 14, 3) := by decide +kernel
theorem dX5_readsPart_48 : decode cX5_readsPart 48 = .ok (.iload 5, 2) := by decide +kernel
theorem dX5_readsPart_50 : decode cX5_readsPart 50 = .ok (.ifCond .ne 9, 3) := by decide +kernel
theorem dX5_readsPart_53 : decode cX5_readsPart 53 = .ok (.aload_n 1, 1) := by decide +kernel
theorem dX5_readsPart_54 : decode cX5_readsPart 54 = .ok (.iconst 1, 1) := by decide +kernel
theorem dX5_readsPart_55 : decode cX5_readsPart 55 = .ok (.invokevirtual 60, 3) := by decide +kernel
theorem dX5_readsPart_58 : decode cX5_readsPart 58 = .ok (.ireturn, 1) := by decide +kernel
theorem dX5_readsPart_59 : decode cX5_readsPart 59 = .ok (.iload_n 2, 1) := by decide +kernel
theorem dX5_readsPart_60 : decode cX5_readsPart 60 = .ok (.iconst 5, 1) := by decide +kernel
theorem dX5_readsPart_61 : decode cX5_readsPart 61 = .ok (.if_icmp .lt 9, 3) := by decide +kernel
theorem dX5_readsPart_64 : decode cX5_readsPart 64 = .ok (.aload_n 1, 1) := by decide +kernel
theorem dX5_readsPart_65 : decode cX5_readsPart 65 = .ok (.iconst 5, 1) := by decide +kernel
theorem dX5_readsPart_66 : decode cX5_readsPart 66 = .ok (.invokevirtual 60, 3) := by decide +kernel
theorem dX5_readsPart_69 : decode cX5_readsPart 69 = .ok (.ireturn, 1) := by decide +kernel
theorem dX5_readsPart_70 : decode cX5_readsPart 70 = .ok (.iload 5, 2) := by decide +kernel
theorem dX5_readsPart_72 : decode cX5_readsPart 72 = .ok (.ifCond .eq 42, 3) := by decide +kernel
theorem dX5_readsPart_75 : decode cX5_readsPart 75 = .ok (.aload_n 1, 1) := by decide +kernel
theorem dX5_readsPart_76 : decode cX5_readsPart 76 = .ok (.invokevirtual 36, 3) := by decide +kernel
theorem dX5_readsPart_79 : decode cX5_readsPart 79 = .ok (.aload_n 0, 1) := by decide +kernel
theorem dX5_readsPart_80 : decode cX5_readsPart 80 = .ok (.aload_n 1, 1) := by decide +kernel
theorem dX5_readsPart_81 : decode cX5_readsPart 81 = .ok (.iconst 0, 1) := by decide +kernel
theorem dX5_readsPart_82 : decode cX5_readsPart 82 = .ok (.iload_n 2, 1) := by decide +kernel
theorem dX5_readsPart_83 : decode cX5_readsPart 83 = .ok (.iconst 1, 1) := by decide +kernel
theorem dX5_readsPart_84 : decode cX5_readsPart 84 = .ok (.iadd, 1) := by decide +kernel
theorem dX5_readsPart_85 : decode cX5_readsPart 85 = .ok (.invokevirtual 28, 3) := by decide +kernel
theorem dX5_readsPart_88 : decode cX5_readsPart 88 = .ok (.ifCond .ne 5, 3) := by decide +kernel
theorem dX5_readsPart_91 : decode cX5_readsPart 91 = .ok (.iconst 0, 1) := by decide +kernel
theorem dX5_readsPart_92 : decode cX5_readsPart 92 = .ok (.ireturn, 1) := by decide +kernel
theorem dX5_readsPart_93 : decode cX5_readsPart 93 = .ok (.aload_n 1, 1) := by decide +kernel
theorem dX5_readsPart_94 : decode cX5_readsPart 94 = .ok (.bipush 41, 2) := by decide +kernel
theorem dX5_readsPart_96 : decode cX5_readsPart 96 = .ok (.invokevirtual 46, 3) := by decide +kernel
theorem dX5_readsPart_99 : decode cX5_readsPart 99 = .ok (.ifCond .ne 9, 3) := by decide +kernel
theorem dX5_readsPart_102 : decode cX5_readsPart 102 = .ok (.aload_n 1, 1) := by decide +kernel
theorem dX5_readsPart_103 : decode cX5_readsPart 103 = .ok (.iconst 1, 1) := by decide +kernel
theorem dX5_readsPart_104 : decode cX5_readsPart 104 = .ok (.invokevirtual 60, 3) := by decide +kernel
theorem dX5_readsPart_107 : decode cX5_readsPart 107 = .ok (.ireturn, 1) := by decide +kernel
theorem dX5_readsPart_108 : decode cX5_readsPart 108 = .ok (.aload_n 1, 1) := by decide +kernel
theorem dX5_readsPart_109 : decode cX5_readsPart 109 = .ok (.invokevirtual 36, 3) := by decide +kernel
theorem dX5_readsPart_112 : decode cX5_readsPart 112 = .ok (.iconst 1, 1) := by decide +kernel
theorem dX5_readsPart_113 : decode cX5_readsPart 113 = .ok (.ireturn, 1) := by decide +kernel
theorem dX5_readsPart_114 : decode cX5_readsPart 114 = .ok (.iload 4, 2) := by decide +kernel
theorem dX5_readsPart_116 : decode cX5_readsPart 116 = .ok (.ifCond .eq 26, 3) := by decide +kernel
theorem dX5_readsPart_119 : decode cX5_readsPart 119 = .ok (.aload_n 1, 1) := by decide +kernel
theorem dX5_readsPart_120 : decode cX5_readsPart 120 = .ok (.invokevirtual 36, 3) := by decide +kernel
theorem dX5_readsPart_123 : decode cX5_readsPart 123 = .ok (.aload_n 0, 1) := by decide +kernel
theorem dX5_readsPart_124 : decode cX5_readsPart 124 = .ok (.aload_n 1, 1) := by decide +kernel
theorem dX5_readsPart_125 : decode cX5_readsPart 125 = .ok (.iload_n 2, 1) := by decide +kernel
theorem dX5_readsPart_126 : decode cX5_readsPart 126 = .ok (.iconst 1, 1) := by decide +kernel
theorem dX5_readsPart_127 : decode cX5_readsPart 127 = .ok (.iadd, 1) := by decide +kernel
theorem dX5_readsPart_128 : decode cX5_readsPart 128 = .ok (.invokevirtual 24, 3) := by decide +kernel
theorem dX5_readsPart_131 : decode cX5_readsPart 131 = .ok (.istore 6, 2) := by decide +kernel
theorem dX5_readsPart_133 : decode cX5_readsPart 133 = .ok (.aload_n 0, 1) := by decide +kernel
theorem dX5_readsPart_134 : decode cX5_readsPart 134 = .ok (.bipush (-5), 2) := by decide +kernel
theorem dX5_readsPart_136 : decode cX5_readsPart 136 = .ok (.invokevirtual 39, 3) := by decide +kernel
theorem dX5_readsPart_139 : decode cX5_readsPart 139 = .ok (.iload 6, 2) := by decide +kernel
theorem dX5_readsPart_141 : decode cX5_readsPart 141 = .ok (.ireturn, 1) := by decide +kernel
theorem dX5_readsPart_142 : decode cX5_readsPart 142 = .ok (.aload_n 0, 1) := by decide +kernel
theorem dX5_readsPart_143 : decode cX5_readsPart 143 = .ok (.iload_n 3, 1) := by decide +kernel
theorem dX5_readsPart_144 : decode cX5_readsPart 144 = .ok (.iconst (-1), 1) := by decide +kernel
theorem dX5_readsPart_145 : decode cX5_readsPart 145 = .ok (.if_icmp .ne 10, 3) := by decide +kernel
theorem dX5_readsPart_148 : decode cX5_readsPart 148 = .ok (.aload_n 1, 1) := by decide +kernel
theorem dX5_readsPart_149 : decode cX5_readsPart 149 = .ok (.getfield 64, 3) := by decide +kernel
theorem dX5_readsPart_152 : decode cX5_readsPart 152 = .ok (.goto 6, 3) := by decide +kernel
theorem dX5_readsPart_155 : decode cX5_readsPart 155 = .ok (.iconst (-1), 1) := by decide +kernel
theorem dX5_readsPart_156 : decode cX5_readsPart 156 = .ok (.iload_n 3, 1) := by decide +kernel
theorem dX5_readsPart_157 : decode cX5_readsPart 157 = .ok (.isub, 1) := by decide +kernel
theorem dX5_readsPart_158 : decode cX5_readsPart 158 = .ok (.invokevirtual 39, 3) := by decide +kernel
theorem dX5_readsPart_161 : decode cX5_readsPart 161 = .ok (.aload_n 1, 1) := by decide +kernel
theorem dX5_readsPart_162 : decode cX5_readsPart 162 = .ok (.invokevirtual 36, 3) := by decide +kernel
theorem dX5_readsPart_165 : decode cX5_readsPart 165 = .ok (.iconst 1, 1) := by decide +kernel
theorem dX5_readsPart_166 : decode cX5_readsPart 166 = .ok (.ireturn, 1) := by decide +kernel
theorem dX5_isFading_0 : decode cX5_isFading 0 = .ok (.aload_n 0, 1) := by decide +kernel
theorem dX5_isFading_1 : decode cX5_isFading 1 = .ok (.getfield 20, 3) := by decide +kernel
theorem dX5_isFading_4 : decode cX5_isFading 4 = .ok (.ifCond .ne 15, 3) := by decide +kernel
theorem dX5_isFading_7 : decode cX5_isFading 7 = .ok (.bipush 8, 2) := by decide +kernel
theorem dX5_isFading_9 : decode cX5_isFading 9 = .ok (.iload_n 1, 1) := by decide +kernel
theorem dX5_isFading_10 : decode cX5_isFading 10 = .ok (.if_icmp .ge 7, 3) := by decide +kernel
theorem dX5_isFading_13 : decode cX5_isFading 13 = .ok (.iconst 1, 1) := by decide +kernel
theorem dX5_isFading_14 : decode cX5_isFading 14 = .ok (.goto 4, 3) := by decide +kernel
theorem dX5_isFading_17 : decode cX5_isFading 17 = .ok (.iconst 0, 1) := by decide +kernel
theorem dX5_isFading_18 : decode cX5_isFading 18 = .ok (.ireturn, 1) := by decide +kernel
theorem dX5_isFading_19 : decode cX5_isFading 19 = .ok (.iconst 0, 1) := by decide +kernel
theorem dX5_isFading_20 : decode cX5_isFading 20 = .ok (.istore 5, 2) := by decide +kernel
theorem dX5_isFading_22 : decode cX5_isFading 22 = .ok (.iconst 0, 1) := by decide +kernel
theorem dX5_isFading_23 : decode cX5_isFading 23 = .ok (.istore 6, 2) := by decide +kernel
theorem dX5_isFading_25 : decode cX5_isFading 25 = .ok (.iload 6, 2) := by decide +kernel
theorem dX5_isFading_27 : decode cX5_isFading 27 = .ok (.aload_n 0, 1) := by decide +kernel
theorem dX5_isFading_28 : decode cX5_isFading 28 = .ok (.getfield 20, 3) := by decide +kernel
theorem dX5_isFading_31 : decode cX5_isFading 31 = .ok (.if_icmp .ge 135, 3) := by decide +kernel
theorem dX5_isFading_34 : decode cX5_isFading 34 = .ok (.aload_n 0, 1) := by decide +kernel
theorem dX5_isFading_35 : decode cX5_isFading 35 = .ok (.getfield 11, 3) := by decide +kernel
theorem dX5_isFading_38 : decode cX5_isFading 38 = .ok (.iload 6, 2) := by decide +kernel
theorem dX5_isFading_40 : decode cX5_isFading 40 = .ok (.iaload, 1) := by decide +kernel
theorem dX5_isFading_41 : decode cX5_isFading 41 = .ok (.istore 7, 2) := by decide +kernel
theorem dX5_isFading_43 : decode cX5_isFading 43 = .ok (.iload 7, 2) := by decide +kernel
theorem dX5_isFading_45 : decode cX5_isFading 45 = .ok (.bipush (-4), 2) := by decide +kernel
theorem dX5_isFading_47 : decode cX5_isFading 47 = .ok (.if_icmp .lt 33, 3) := by decide +kernel
theorem dX5_isFading_50 : decode cX5_isFading 50 = .ok (.iload 5, 2) := by decide +kernel
theorem dX5_isFading_52 : decode cX5_isFading 52 = .ok (.bipush 32, 2) := by decide +kernel
theorem dX5_isFading_54 : decode cX5_isFading 54 = .ok (.if_icmp .ge 26, 3) := by decide +kernel
theorem dX5_isFading_57 : decode cX5_isFading 57 = .ok (.aload_n 0, 1) := by decide +kernel
theorem dX5_isFading_58 : decode cX5_isFading 58 = .ok (.getfield 17, 3) := by decide +kernel
theorem dX5_isFading_61 : decode cX5_isFading 61 = .ok (.iload 5, 2) := by decide +kernel
theorem dX5_isFading_63 : decode cX5_isFading 63 = .ok (.iload 7, 2) := by decide +kernel
theorem dX5_isFading_65 : decode cX5_isFading 65 = .ok (.iload_n 1, 1) := by decide +kernel
theorem dX5_isFading_66 : decode cX5_isFading 66 = .ok (.iload_n 2, 1) := by decide +kernel
theorem dX5_isFading_67 : decode cX5_isFading 67 = .ok (.iload_n 3, 1) := by decide +kernel
theorem dX5_isFading_68 : decode cX5_isFading 68 = .ok (.iload 4, 2) := by decide +kernel
theorem dX5_isFading_70 : decode cX5_isFading 70 = .ok (.invokestatic 67, 3) := by decide +kernel
theorem dX5_isFading_73 : decode cX5_isFading 73 = .ok (.iastore, 1) := by decide +kernel
theorem dX5_isFading_74 : decode cX5_isFading 74 = .ok (.iinc 5 1, 3) := by decide +kernel
theorem dX5_isFading_77 : decode cX5_isFading 77 = .ok (.goto 83, 3) := by decide +kernel
theorem dX5_isFading_80 : decode cX5_isFading 80 = .ok (.iload 7, 2) := by decide +kernel
theorem dX5_isFading_82 : decode cX5_isFading 82 = .ok (.bipush (-5), 2) := by decide +kernel
theorem dX5_isFading_84 : decode cX5_isFading 84 = .ok (.if_icmp .ne 37, 3) := by decide +kernel
theorem dX5_isFading_87 : decode cX5_isFading 87 = .ok (.iload 5, 2) := by decide +kernel
theorem dX5_isFading_89 : decode cX5_isFading 89 = .ok (.ifCond .le 32, 3) := by decide +kernel
theorem dX5_isFading_92 : decode cX5_isFading 92 = .ok (.aload_n 0, 1) := by decide +kernel
theorem dX5_isFading_93 : decode cX5_isFading 93 = .ok (.getfield 17, 3) := by decide +kernel
theorem dX5_isFading_96 : decode cX5_isFading 96 = .ok (.iload 5, 2) := by decide +kernel
theorem dX5_isFading_98 : decode cX5_isFading 98 = .ok (.iconst 1, 1) := by decide +kernel
theorem dX5_isFading_99 : decode cX5_isFading 99 = .ok (.isub, 1) := by decide +kernel
theorem dX5_isFading_100 : decode cX5_isFading 100 = .ok (.aload_n 0, 1) := by decide +kernel
theorem dX5_isFading_101 : decode cX5_isFading 101 = .ok (.getfield 17, 3) := by decide +kernel
theorem dX5_isFading_104 : decode cX5_isFading 104 = .ok (.iload 5, 2) := by decide +kernel
theorem dX5_isFading_106 : decode cX5_isFading 106 = .ok (.iconst 1, 1) := by decide +kernel
theorem dX5_isFading_107 : decode cX5_isFading 107 = .ok (.isub, 1) := by decide +kernel
theorem dX5_isFading_108 : decode cX5_isFading 108 = .ok (.iaload, 1) := by decide +kernel
theorem dX5_isFading_109 : decode cX5_isFading 109 = .ok (.ifCond .ne 7, 3) := by decide +kernel
theorem dX5_isFading_112 : decode cX5_isFading 112 = .ok (.iconst 1, 1) := by decide +kernel
theorem dX5_isFading_113 : decode cX5_isFading 113 = .ok (.goto 4, 3) := by decide +kernel
theorem dX5_isFading_116 : decode cX5_isFading 116 = .ok (.iconst 0, 1) := by decide +kernel
theorem dX5_isFading_117 : decode cX5_isFading 117 = .ok (.iastore, 1) := by decide +kernel
theorem dX5_isFading_118 : decode cX5_isFading 118 = .ok (.goto 42, 3) := by decide +kernel
theorem dX5_isFading_121 : decode cX5_isFading 121 = .ok (.iload 5, 2) := by decide +kernel
theorem dX5_isFading_123 : decode cX5_isFading 123 = .ok (.iconst 1, 1) := by decide +kernel
theorem dX5_isFading_124 : decode cX5_isFading 124 = .ok (.if_icmp .le 36, 3) := by decide +kernel
theorem dX5_isFading_127 : decode cX5_isFading 127 = .ok (.iinc 5 (-1), 3) := by decide +kernel
theorem dX5_isFading_130 : decode cX5_isFading 130 = .ok (.aload_n 0, 1) := by decide +kernel
theorem dX5_isFading_131 : decode cX5_isFading 131 = .ok (.getfield 17, 3) := by decide +kernel
theorem dX5_isFading_134 : decode cX5_isFading 134 = .ok (.iload 5, 2) := by decide +kernel
theorem dX5_isFading_136 : decode cX5_isFading 136 = .ok (.iconst 1, 1) := by decide +kernel
theorem dX5_isFading_137 : decode cX5_isFading 137 = .ok (.isub, 1) := by decide +kernel
theorem dX5_isFading_138 : decode cX5_isFading 138 = .ok (.iload 7, 2) := by decide +kernel
theorem dX5_isFading_140 : decode cX5_isFading 140 = .ok (.aload_n 0, 1) := by decide +kernel
theorem dX5_isFading_141 : decode cX5_isFading 141 = .ok (.getfield 17, 3) := by decide +kernel
theorem dX5_isFading_144 : decode cX5_isFading 144 = .ok (.iload 5, 2) := by decide +kernel
theorem dX5_isFading_146 : decode cX5_isFading 146 = .ok (.iconst 1, 1) := by decide +kernel
theorem dX5_isFading_147 : decode cX5_isFading 147 = .ok (.isub, 1) := by decide +kernel
theorem dX5_isFading_148 : decode cX5_isFading 148 = .ok (.iaload, 1) := by decide +kernel
theorem dX5_isFading_149 : decode cX5_isFading 149 = .ok (.aload_n 0, 1) := by decide +kernel
theorem dX5_isFading_150 : decode cX5_isFading 150 = .ok (.getfield 17, 3) := by decide +kernel
theorem dX5_isFading_153 : decode cX5_isFading 153 = .ok (.iload 5, 2) := by decide +kernel
theorem dX5_isFading_155 : decode cX5_isFading 155 = .ok (.iaload, 1) := by decide +kernel
theorem dX5_isFading_156 : decode cX5_isFading 156 = .ok (.invokestatic 71, 3) := by decide +kernel
theorem dX5_isFading_159 : decode cX5_isFading 159 = .ok (.iastore, 1) := by decide +kernel
theorem dX5_isFading_160 : decode cX5_isFading 160 = .ok (.iinc 6 1, 3) := by decide +kernel
theorem dX5_isFading_163 : decode cX5_isFading 163 = .ok (.goto (-138), 3) := by decide +kernel
theorem dX5_isFading_166 : decode cX5_isFading 166 = .ok (.aload_n 0, 1) := by decide +kernel
theorem dX5_isFading_167 : decode cX5_isFading 167 = .ok (.getfield 17, 3) := by decide +kernel
theorem dX5_isFading_170 : decode cX5_isFading 170 = .ok (.iconst 0, 1) := by decide +kernel
theorem dX5_isFading_171 : decode cX5_isFading 171 = .ok (.iaload, 1) := by decide +kernel
theorem dX5_isFading_172 : decode cX5_isFading 172 = .ok (.ifCond .eq 7, 3) := by decide +kernel
theorem dX5_isFading_175 : decode cX5_isFading 175 = .ok (.iconst 1, 1) := by decide +kernel
theorem dX5_isFading_176 : decode cX5_isFading 176 = .ok (.goto 4, 3) := by decide +kernel
theorem dX5_isFading_179 : decode cX5_isFading 179 = .ok (.iconst 0, 1) := by decide +kernel
theorem dX5_isFading_180 : decode cX5_isFading 180 = .ok (.ireturn, 1) := by decide +kernel
theorem dX5_partOf_0 : decode cX5_partOf 0 = .ok (.iload_n 0, 1) := by decide +kernel
theorem dX5_partOf_1 : decode cX5_partOf 1 = .ok (.tableswitch 40 (-4) (-1) #[37, 35, 33, 31], 31) := by decide +kernel
theorem dX5_partOf_32 : decode cX5_partOf 32 = .ok (.iload_n 1, 1) := by decide +kernel
theorem dX5_partOf_33 : decode cX5_partOf 33 = .ok (.ireturn, 1) := by decide +kernel
theorem dX5_partOf_34 : decode cX5_partOf 34 = .ok (.iload_n 2, 1) := by decide +kernel
theorem dX5_partOf_35 : decode cX5_partOf 35 = .ok (.ireturn, 1) := by decide +kernel
theorem dX5_partOf_36 : decode cX5_partOf 36 = .ok (.iload_n 3, 1) := by decide +kernel
theorem dX5_partOf_37 : decode cX5_partOf 37 = .ok (.ireturn, 1) := by decide +kernel
theorem dX5_partOf_38 : decode cX5_partOf 38 = .ok (.iload 4, 2) := by decide +kernel
theorem dX5_partOf_40 : decode cX5_partOf 40 = .ok (.ireturn, 1) := by decide +kernel
theorem dX5_partOf_41 : decode cX5_partOf 41 = .ok (.iload_n 0, 1) := by decide +kernel
theorem dX5_partOf_42 : decode cX5_partOf 42 = .ok (.ireturn, 1) := by decide +kernel
theorem dX5_joined_0 : decode cX5_joined 0 = .ok (.iload_n 0, 1) := by decide +kernel
theorem dX5_joined_1 : decode cX5_joined 1 = .ok (.tableswitch 97 (-11) (-6) #[93, 89, 78, 67, 53, 39], 39) := by decide +kernel
theorem dX5_joined_40 : decode cX5_joined 40 = .ok (.iload_n 1, 1) := by decide +kernel
theorem dX5_joined_41 : decode cX5_joined 41 = .ok (.ifCond .eq 11, 3) := by decide +kernel
theorem dX5_joined_44 : decode cX5_joined 44 = .ok (.iload_n 2, 1) := by decide +kernel
theorem dX5_joined_45 : decode cX5_joined 45 = .ok (.ifCond .eq 7, 3) := by decide +kernel
theorem dX5_joined_48 : decode cX5_joined 48 = .ok (.iconst 1, 1) := by decide +kernel
theorem dX5_joined_49 : decode cX5_joined 49 = .ok (.goto 4, 3) := by decide +kernel
theorem dX5_joined_52 : decode cX5_joined 52 = .ok (.iconst 0, 1) := by decide +kernel
theorem dX5_joined_53 : decode cX5_joined 53 = .ok (.ireturn, 1) := by decide +kernel
theorem dX5_joined_54 : decode cX5_joined 54 = .ok (.iload_n 1, 1) := by decide +kernel
theorem dX5_joined_55 : decode cX5_joined 55 = .ok (.ifCond .ne 7, 3) := by decide +kernel
theorem dX5_joined_58 : decode cX5_joined 58 = .ok (.iload_n 2, 1) := by decide +kernel
theorem dX5_joined_59 : decode cX5_joined 59 = .ok (.ifCond .eq 7, 3) := by decide +kernel
theorem dX5_joined_62 : decode cX5_joined 62 = .ok (.iconst 1, 1) := by decide +kernel
theorem dX5_joined_63 : decode cX5_joined 63 = .ok (.goto 4, 3) := by decide +kernel
theorem dX5_joined_66 : decode cX5_joined 66 = .ok (.iconst 0, 1) := by decide +kernel
theorem dX5_joined_67 : decode cX5_joined 67 = .ok (.ireturn, 1) := by decide +kernel
theorem dX5_joined_68 : decode cX5_joined 68 = .ok (.iload_n 1, 1) := by decide +kernel
theorem dX5_joined_69 : decode cX5_joined 69 = .ok (.iload_n 2, 1) := by decide +kernel
theorem dX5_joined_70 : decode cX5_joined 70 = .ok (.if_icmp .ge 7, 3) := by decide +kernel
theorem dX5_joined_73 : decode cX5_joined 73 = .ok (.iconst 1, 1) := by decide +kernel
theorem dX5_joined_74 : decode cX5_joined 74 = .ok (.goto 4, 3) := by decide +kernel
theorem dX5_joined_77 : decode cX5_joined 77 = .ok (.iconst 0, 1) := by decide +kernel
theorem dX5_joined_78 : decode cX5_joined 78 = .ok (.ireturn, 1) := by decide +kernel
theorem dX5_joined_79 : decode cX5_joined 79 = .ok (.iload_n 1, 1) := by decide +kernel
theorem dX5_joined_80 : decode cX5_joined 80 = .ok (.iload_n 2, 1) := by decide +kernel
theorem dX5_joined_81 : decode cX5_joined 81 = .ok (.if_icmp .ne 7, 3) := by decide +kernel
theorem dX5_joined_84 : decode cX5_joined 84 = .ok (.iconst 1, 1) := by decide +kernel
theorem dX5_joined_85 : decode cX5_joined 85 = .ok (.goto 4, 3) := by decide +kernel
theorem dX5_joined_88 : decode cX5_joined 88 = .ok (.iconst 0, 1) := by decide +kernel
theorem dX5_joined_89 : decode cX5_joined 89 = .ok (.ireturn, 1) := by decide +kernel
theorem dX5_joined_90 : decode cX5_joined 90 = .ok (.iload_n 1, 1) := by decide +kernel
theorem dX5_joined_91 : decode cX5_joined 91 = .ok (.iload_n 2, 1) := by decide +kernel
theorem dX5_joined_92 : decode cX5_joined 92 = .ok (.iadd, 1) := by decide +kernel
theorem dX5_joined_93 : decode cX5_joined 93 = .ok (.ireturn, 1) := by decide +kernel
theorem dX5_joined_94 : decode cX5_joined 94 = .ok (.iload_n 1, 1) := by decide +kernel
theorem dX5_joined_95 : decode cX5_joined 95 = .ok (.iload_n 2, 1) := by decide +kernel
theorem dX5_joined_96 : decode cX5_joined 96 = .ok (.isub, 1) := by decide +kernel
theorem dX5_joined_97 : decode cX5_joined 97 = .ok (.ireturn, 1) := by decide +kernel
theorem dX5_joined_98 : decode cX5_joined 98 = .ok (.iload_n 1, 1) := by decide +kernel
theorem dX5_joined_99 : decode cX5_joined 99 = .ok (.iload_n 2, 1) := by decide +kernel
theorem dX5_joined_100 : decode cX5_joined 100 = .ok (.imul, 1) := by decide +kernel
theorem dX5_joined_101 : decode cX5_joined 101 = .ok (.ireturn, 1) := by decide +kernel
theorem dX6_unseenCells_0 : decode cX6_unseenCells 0 = .ok (.sipush 1023, 3) := by decide +kernel
theorem dX6_unseenCells_3 : decode cX6_unseenCells 3 = .ok (.istore_n 2, 1) := by decide +kernel
theorem dX6_unseenCells_4 : decode cX6_unseenCells 4 = .ok (.iconst 0, 1) := by decide +kernel
theorem dX6_unseenCells_5 : decode cX6_unseenCells 5 = .ok (.istore_n 3, 1) := by decide +kernel
theorem dX6_unseenCells_6 : decode cX6_unseenCells 6 = .ok (.iload_n 3, 1) := by decide +kernel
theorem dX6_unseenCells_7 : decode cX6_unseenCells 7 = .ok (.aload_n 0, 1) := by decide +kernel
theorem dX6_unseenCells_8 : decode cX6_unseenCells 8 = .ok (.getfield 9, 3) := by decide +kernel
theorem dX6_unseenCells_11 : decode cX6_unseenCells 11 = .ok (.if_icmp .ge 20, 3) := by decide +kernel
theorem dX6_unseenCells_14 : decode cX6_unseenCells 14 = .ok (.iload_n 2, 1) := by decide +kernel
theorem dX6_unseenCells_15 : decode cX6_unseenCells 15 = .ok (.aload_n 1, 1) := by decide +kernel
theorem dX6_unseenCells_16 : decode cX6_unseenCells 16 = .ok (.aload_n 0, 1) := by decide +kernel
theorem dX6_unseenCells_17 : decode cX6_unseenCells 17 = .ok (.iload_n 3, 1) := by decide +kernel
theorem dX6_unseenCells_18 : decode cX6_unseenCells 18 = .ok (.invokevirtual 15, 3) := by decide +kernel
theorem dX6_unseenCells_21 : decode cX6_unseenCells 21 = .ok (.iconst (-1), 1) := by decide +kernel
theorem dX6_unseenCells_22 : decode cX6_unseenCells 22 = .ok (.ixor, 1) := by decide +kernel
theorem dX6_unseenCells_23 : decode cX6_unseenCells 23 = .ok (.iand, 1) := by decide +kernel
theorem dX6_unseenCells_24 : decode cX6_unseenCells 24 = .ok (.istore_n 2, 1) := by decide +kernel
theorem dX6_unseenCells_25 : decode cX6_unseenCells 25 = .ok (.iinc 3 1, 3) := by decide +kernel
theorem dX6_unseenCells_28 : decode cX6_unseenCells 28 = .ok (.goto (-22), 3) := by decide +kernel
theorem dX6_unseenCells_31 : decode cX6_unseenCells 31 = .ok (.iload_n 2, 1) := by decide +kernel
theorem dX6_unseenCells_32 : decode cX6_unseenCells 32 = .ok (.ireturn, 1) := by decide +kernel
theorem dX6_nearestUnseen_0 : decode cX6_nearestUnseen 0 = .ok (.aload_n 0, 1) := by decide +kernel
theorem dX6_nearestUnseen_1 : decode cX6_nearestUnseen 1 = .ok (.aload_n 1, 1) := by decide +kernel
theorem dX6_nearestUnseen_2 : decode cX6_nearestUnseen 2 = .ok (.invokestatic 21, 3) := by decide +kernel
theorem dX6_nearestUnseen_5 : decode cX6_nearestUnseen 5 = .ok (.istore_n 3, 1) := by decide +kernel
theorem dX6_nearestUnseen_6 : decode cX6_nearestUnseen 6 = .ok (.iconst (-1), 1) := by decide +kernel
theorem dX6_nearestUnseen_7 : decode cX6_nearestUnseen 7 = .ok (.istore 4, 2) := by decide +kernel
theorem dX6_nearestUnseen_9 : decode cX6_nearestUnseen 9 = .ok (.iconst 0, 1) := by decide +kernel
theorem dX6_nearestUnseen_10 : decode cX6_nearestUnseen 10 = .ok (.istore 5, 2) := by decide +kernel
theorem dX6_nearestUnseen_12 : decode cX6_nearestUnseen 12 = .ok (.iload 5, 2) := by decide +kernel
theorem dX6_nearestUnseen_14 : decode cX6_nearestUnseen 14 = .ok (.bipush 10, 2) := by decide +kernel
theorem dX6_nearestUnseen_16 : decode cX6_nearestUnseen 16 = .ok (.if_icmp .ge 57, 3) := by decide +kernel
theorem dX6_nearestUnseen_19 : decode cX6_nearestUnseen 19 = .ok (.iload 4, 2) := by decide +kernel
theorem dX6_nearestUnseen_21 : decode cX6_nearestUnseen 21 = .ok (.iconst (-1), 1) := by decide +kernel
theorem dX6_nearestUnseen_22 : decode cX6_nearestUnseen 22 = .ok (.if_icmp .eq 20, 3) := by decide +kernel
theorem dX6_nearestUnseen_25 : decode cX6_nearestUnseen 25 = .ok (.iload 5, 2) := by decide +kernel
theorem dX6_nearestUnseen_27 : decode cX6_nearestUnseen 27 = .ok (.iload_n 2, 1) := by decide +kernel
theorem dX6_nearestUnseen_28 : decode cX6_nearestUnseen 28 = .ok (.isub, 1) := by decide +kernel
theorem dX6_nearestUnseen_29 : decode cX6_nearestUnseen 29 = .ok (.invokestatic 27, 3) := by decide +kernel
theorem dX6_nearestUnseen_32 : decode cX6_nearestUnseen 32 = .ok (.iload 4, 2) := by decide +kernel
theorem dX6_nearestUnseen_34 : decode cX6_nearestUnseen 34 = .ok (.iload_n 2, 1) := by decide +kernel
theorem dX6_nearestUnseen_35 : decode cX6_nearestUnseen 35 = .ok (.isub, 1) := by decide +kernel
theorem dX6_nearestUnseen_36 : decode cX6_nearestUnseen 36 = .ok (.invokestatic 27, 3) := by decide +kernel
theorem dX6_nearestUnseen_39 : decode cX6_nearestUnseen 39 = .ok (.if_icmp .ge 7, 3) := by decide +kernel
theorem dX6_nearestUnseen_42 : decode cX6_nearestUnseen 42 = .ok (.iconst 1, 1) := by decide +kernel
theorem dX6_nearestUnseen_43 : decode cX6_nearestUnseen 43 = .ok (.goto 4, 3) := by decide +kernel
theorem dX6_nearestUnseen_46 : decode cX6_nearestUnseen 46 = .ok (.iconst 0, 1) := by decide +kernel
theorem dX6_nearestUnseen_47 : decode cX6_nearestUnseen 47 = .ok (.istore 6, 2) := by decide +kernel
theorem dX6_nearestUnseen_49 : decode cX6_nearestUnseen 49 = .ok (.iload_n 3, 1) := by decide +kernel
theorem dX6_nearestUnseen_50 : decode cX6_nearestUnseen 50 = .ok (.iload 5, 2) := by decide +kernel
theorem dX6_nearestUnseen_52 : decode cX6_nearestUnseen 52 = .ok (.ishr, 1) := by decide +kernel
theorem dX6_nearestUnseen_53 : decode cX6_nearestUnseen 53 = .ok (.iconst 1, 1) := by decide +kernel
theorem dX6_nearestUnseen_54 : decode cX6_nearestUnseen 54 = .ok (.iand, 1) := by decide +kernel
theorem dX6_nearestUnseen_55 : decode cX6_nearestUnseen 55 = .ok (.ifCond .eq 12, 3) := by decide +kernel
theorem dX6_nearestUnseen_58 : decode cX6_nearestUnseen 58 = .ok (.iload 6, 2) := by decide +kernel
theorem dX6_nearestUnseen_60 : decode cX6_nearestUnseen 60 = .ok (.ifCond .eq 7, 3) := by decide +kernel
theorem dX6_nearestUnseen_63 : decode cX6_nearestUnseen 63 = .ok (.iload 5, 2) := by decide +kernel
theorem dX6_nearestUnseen_65 : decode cX6_nearestUnseen 65 = .ok (.istore 4, 2) := by decide +kernel
theorem dX6_nearestUnseen_67 : decode cX6_nearestUnseen 67 = .ok (.iinc 5 1, 3) := by decide +kernel
theorem dX6_nearestUnseen_70 : decode cX6_nearestUnseen 70 = .ok (.goto (-58), 3) := by decide +kernel
theorem dX6_nearestUnseen_73 : decode cX6_nearestUnseen 73 = .ok (.iload 4, 2) := by decide +kernel
theorem dX6_nearestUnseen_75 : decode cX6_nearestUnseen 75 = .ok (.ireturn, 1) := by decide +kernel
theorem dX6_fewestWatching_0 : decode cX6_fewestWatching 0 = .ok (.iconst (-1), 1) := by decide +kernel
theorem dX6_fewestWatching_1 : decode cX6_fewestWatching 1 = .ok (.istore_n 3, 1) := by decide +kernel
theorem dX6_fewestWatching_2 : decode cX6_fewestWatching 2 = .ok (.iconst 0, 1) := by decide +kernel
theorem dX6_fewestWatching_3 : decode cX6_fewestWatching 3 = .ok (.istore 4, 2) := by decide +kernel
theorem dX6_fewestWatching_5 : decode cX6_fewestWatching 5 = .ok (.iload 4, 2) := by decide +kernel
theorem dX6_fewestWatching_7 : decode cX6_fewestWatching 7 = .ok (.bipush 10, 2) := by decide +kernel
theorem dX6_fewestWatching_9 : decode cX6_fewestWatching 9 = .ok (.if_icmp .ge 39, 3) := by decide +kernel
theorem dX6_fewestWatching_12 : decode cX6_fewestWatching 12 = .ok (.aload_n 1, 1) := by decide +kernel
theorem dX6_fewestWatching_13 : decode cX6_fewestWatching 13 = .ok (.aload_n 0, 1) := by decide +kernel
theorem dX6_fewestWatching_14 : decode cX6_fewestWatching 14 = .ok (.iload 4, 2) := by decide +kernel
theorem dX6_fewestWatching_16 : decode cX6_fewestWatching 16 = .ok (.invokevirtual 33, 3) := by decide +kernel
theorem dX6_fewestWatching_19 : decode cX6_fewestWatching 19 = .ok (.istore 5, 2) := by decide +kernel
theorem dX6_fewestWatching_21 : decode cX6_fewestWatching 21 = .ok (.iload_n 2, 1) := by decide +kernel
theorem dX6_fewestWatching_22 : decode cX6_fewestWatching 22 = .ok (.iload 4, 2) := by decide +kernel
theorem dX6_fewestWatching_24 : decode cX6_fewestWatching 24 = .ok (.ishr, 1) := by decide +kernel
theorem dX6_fewestWatching_25 : decode cX6_fewestWatching 25 = .ok (.iconst 1, 1) := by decide +kernel
theorem dX6_fewestWatching_26 : decode cX6_fewestWatching 26 = .ok (.iand, 1) := by decide +kernel
theorem dX6_fewestWatching_27 : decode cX6_fewestWatching 27 = .ok (.ifCond .eq 15, 3) := by decide +kernel
theorem dX6_fewestWatching_30 : decode cX6_fewestWatching 30 = .ok (.iload 5, 2) := by decide +kernel
theorem dX6_fewestWatching_32 : decode cX6_fewestWatching 32 = .ok (.iload_n 3, 1) := by decide +kernel
theorem dX6_fewestWatching_33 : decode cX6_fewestWatching 33 = .ok (.invokestatic 36, 3) := by decide +kernel
theorem dX6_fewestWatching_36 : decode cX6_fewestWatching 36 = .ok (.ifCond .eq 6, 3) := by decide +kernel
theorem dX6_fewestWatching_39 : decode cX6_fewestWatching 39 = .ok (.iload 5, 2) := by decide +kernel
theorem dX6_fewestWatching_41 : decode cX6_fewestWatching 41 = .ok (.istore_n 3, 1) := by decide +kernel
theorem dX6_fewestWatching_42 : decode cX6_fewestWatching 42 = .ok (.iinc 4 1, 3) := by decide +kernel
theorem dX6_fewestWatching_45 : decode cX6_fewestWatching 45 = .ok (.goto (-40), 3) := by decide +kernel
theorem dX6_fewestWatching_48 : decode cX6_fewestWatching 48 = .ok (.iload_n 3, 1) := by decide +kernel
theorem dX6_fewestWatching_49 : decode cX6_fewestWatching 49 = .ok (.ireturn, 1) := by decide +kernel
theorem dX6_cellsAsSaid_0 : decode cX6_cellsAsSaid 0 = .ok (.sipush 1023, 3) := by decide +kernel
theorem dX6_cellsAsSaid_3 : decode cX6_cellsAsSaid 3 = .ok (.istore_n 2, 1) := by decide +kernel
theorem dX6_cellsAsSaid_4 : decode cX6_cellsAsSaid 4 = .ok (.iconst 0, 1) := by decide +kernel
theorem dX6_cellsAsSaid_5 : decode cX6_cellsAsSaid 5 = .ok (.istore_n 3, 1) := by decide +kernel
theorem dX6_cellsAsSaid_6 : decode cX6_cellsAsSaid 6 = .ok (.iload_n 3, 1) := by decide +kernel
theorem dX6_cellsAsSaid_7 : decode cX6_cellsAsSaid 7 = .ok (.aload_n 0, 1) := by decide +kernel
theorem dX6_cellsAsSaid_8 : decode cX6_cellsAsSaid 8 = .ok (.getfield 9, 3) := by decide +kernel
theorem dX6_cellsAsSaid_11 : decode cX6_cellsAsSaid 11 = .ok (.if_icmp .ge 51, 3) := by decide +kernel
theorem dX6_cellsAsSaid_14 : decode cX6_cellsAsSaid 14 = .ok (.aload_n 1, 1) := by decide +kernel
theorem dX6_cellsAsSaid_15 : decode cX6_cellsAsSaid 15 = .ok (.getfield 40, 3) := by decide +kernel
theorem dX6_cellsAsSaid_18 : decode cX6_cellsAsSaid 18 = .ok (.iload_n 3, 1) := by decide +kernel
theorem dX6_cellsAsSaid_19 : decode cX6_cellsAsSaid 19 = .ok (.ishr, 1) := by decide +kernel
theorem dX6_cellsAsSaid_20 : decode cX6_cellsAsSaid 20 = .ok (.iconst 1, 1) := by decide +kernel
theorem dX6_cellsAsSaid_21 : decode cX6_cellsAsSaid 21 = .ok (.iand, 1) := by decide +kernel
theorem dX6_cellsAsSaid_22 : decode cX6_cellsAsSaid 22 = .ok (.ifCond .eq 34, 3) := by decide +kernel
theorem dX6_cellsAsSaid_25 : decode cX6_cellsAsSaid 25 = .ok (.aload_n 1, 1) := by decide +kernel
theorem dX6_cellsAsSaid_26 : decode cX6_cellsAsSaid 26 = .ok (.aload_n 0, 1) := by decide +kernel
theorem dX6_cellsAsSaid_27 : decode cX6_cellsAsSaid 27 = .ok (.iload_n 3, 1) := by decide +kernel
theorem dX6_cellsAsSaid_28 : decode cX6_cellsAsSaid 28 = .ok (.invokevirtual 15, 3) := by decide +kernel
theorem dX6_cellsAsSaid_31 : decode cX6_cellsAsSaid 31 = .ok (.istore 4, 2) := by decide +kernel
theorem dX6_cellsAsSaid_33 : decode cX6_cellsAsSaid 33 = .ok (.iload_n 2, 1) := by decide +kernel
theorem dX6_cellsAsSaid_34 : decode cX6_cellsAsSaid 34 = .ok (.aload_n 1, 1) := by decide +kernel
theorem dX6_cellsAsSaid_35 : decode cX6_cellsAsSaid 35 = .ok (.getfield 43, 3) := by decide +kernel
theorem dX6_cellsAsSaid_38 : decode cX6_cellsAsSaid 38 = .ok (.iload_n 3, 1) := by decide +kernel
theorem dX6_cellsAsSaid_39 : decode cX6_cellsAsSaid 39 = .ok (.ishr, 1) := by decide +kernel
theorem dX6_cellsAsSaid_40 : decode cX6_cellsAsSaid 40 = .ok (.iconst 1, 1) := by decide +kernel
theorem dX6_cellsAsSaid_41 : decode cX6_cellsAsSaid 41 = .ok (.iand, 1) := by decide +kernel
theorem dX6_cellsAsSaid_42 : decode cX6_cellsAsSaid 42 = .ok (.ifCond .eq 8, 3) := by decide +kernel
theorem dX6_cellsAsSaid_45 : decode cX6_cellsAsSaid 45 = .ok (.iload 4, 2) := by decide +kernel
theorem dX6_cellsAsSaid_47 : decode cX6_cellsAsSaid 47 = .ok (.goto 7, 3) := by decide +kernel
theorem dX6_cellsAsSaid_50 : decode cX6_cellsAsSaid 50 = .ok (.iload 4, 2) := by decide +kernel
theorem dX6_cellsAsSaid_52 : decode cX6_cellsAsSaid 52 = .ok (.iconst (-1), 1) := by decide +kernel
theorem dX6_cellsAsSaid_53 : decode cX6_cellsAsSaid 53 = .ok (.ixor, 1) := by decide +kernel
theorem dX6_cellsAsSaid_54 : decode cX6_cellsAsSaid 54 = .ok (.iand, 1) := by decide +kernel
theorem dX6_cellsAsSaid_55 : decode cX6_cellsAsSaid 55 = .ok (.istore_n 2, 1) := by decide +kernel
theorem dX6_cellsAsSaid_56 : decode cX6_cellsAsSaid 56 = .ok (.iinc 3 1, 3) := by decide +kernel
theorem dX6_cellsAsSaid_59 : decode cX6_cellsAsSaid 59 = .ok (.goto (-53), 3) := by decide +kernel
theorem dX6_cellsAsSaid_62 : decode cX6_cellsAsSaid 62 = .ok (.iload_n 2, 1) := by decide +kernel
theorem dX6_cellsAsSaid_63 : decode cX6_cellsAsSaid 63 = .ok (.ireturn, 1) := by decide +kernel
theorem dX6_bestToAsk_0 : decode cX6_bestToAsk 0 = .ok (.aload_n 0, 1) := by decide +kernel
theorem dX6_bestToAsk_1 : decode cX6_bestToAsk 1 = .ok (.aload_n 1, 1) := by decide +kernel
theorem dX6_bestToAsk_2 : decode cX6_bestToAsk 2 = .ok (.invokestatic 46, 3) := by decide +kernel
theorem dX6_bestToAsk_5 : decode cX6_bestToAsk 5 = .ok (.istore_n 2, 1) := by decide +kernel
theorem dX6_bestToAsk_6 : decode cX6_bestToAsk 6 = .ok (.iconst (-1), 1) := by decide +kernel
theorem dX6_bestToAsk_7 : decode cX6_bestToAsk 7 = .ok (.istore_n 3, 1) := by decide +kernel
theorem dX6_bestToAsk_8 : decode cX6_bestToAsk 8 = .ok (.iload_n 2, 1) := by decide +kernel
theorem dX6_bestToAsk_9 : decode cX6_bestToAsk 9 = .ok (.invokestatic 49, 3) := by decide +kernel
theorem dX6_bestToAsk_12 : decode cX6_bestToAsk 12 = .ok (.istore 4, 2) := by decide +kernel
theorem dX6_bestToAsk_14 : decode cX6_bestToAsk 14 = .ok (.iconst 0, 1) := by decide +kernel
theorem dX6_bestToAsk_15 : decode cX6_bestToAsk 15 = .ok (.istore 5, 2) := by decide +kernel
theorem dX6_bestToAsk_17 : decode cX6_bestToAsk 17 = .ok (.iload 5, 2) := by decide +kernel
theorem dX6_bestToAsk_19 : decode cX6_bestToAsk 19 = .ok (.aload_n 0, 1) := by decide +kernel
theorem dX6_bestToAsk_20 : decode cX6_bestToAsk 20 = .ok (.getfield 9, 3) := by decide +kernel
theorem dX6_bestToAsk_23 : decode cX6_bestToAsk 23 = .ok (.if_icmp .ge 65, 3) := by decide +kernel
theorem dX6_bestToAsk_26 : decode cX6_bestToAsk 26 = .ok (.aload_n 1, 1) := by decide +kernel
theorem dX6_bestToAsk_27 : decode cX6_bestToAsk 27 = .ok (.aload_n 0, 1) := by decide +kernel
theorem dX6_bestToAsk_28 : decode cX6_bestToAsk 28 = .ok (.iload 5, 2) := by decide +kernel
theorem dX6_bestToAsk_30 : decode cX6_bestToAsk 30 = .ok (.invokevirtual 15, 3) := by decide +kernel
theorem dX6_bestToAsk_33 : decode cX6_bestToAsk 33 = .ok (.istore 6, 2) := by decide +kernel
theorem dX6_bestToAsk_35 : decode cX6_bestToAsk 35 = .ok (.iload_n 2, 1) := by decide +kernel
theorem dX6_bestToAsk_36 : decode cX6_bestToAsk 36 = .ok (.iload 6, 2) := by decide +kernel
theorem dX6_bestToAsk_38 : decode cX6_bestToAsk 38 = .ok (.iand, 1) := by decide +kernel
theorem dX6_bestToAsk_39 : decode cX6_bestToAsk 39 = .ok (.invokestatic 49, 3) := by decide +kernel
theorem dX6_bestToAsk_42 : decode cX6_bestToAsk 42 = .ok (.iload_n 2, 1) := by decide +kernel
theorem dX6_bestToAsk_43 : decode cX6_bestToAsk 43 = .ok (.iload 6, 2) := by decide +kernel
theorem dX6_bestToAsk_45 : decode cX6_bestToAsk 45 = .ok (.iconst (-1), 1) := by decide +kernel
theorem dX6_bestToAsk_46 : decode cX6_bestToAsk 46 = .ok (.ixor, 1) := by decide +kernel
theorem dX6_bestToAsk_47 : decode cX6_bestToAsk 47 = .ok (.iand, 1) := by decide +kernel
theorem dX6_bestToAsk_48 : decode cX6_bestToAsk 48 = .ok (.invokestatic 49, 3) := by decide +kernel
theorem dX6_bestToAsk_51 : decode cX6_bestToAsk 51 = .ok (.invokestatic 54, 3) := by decide +kernel
theorem dX6_bestToAsk_54 : decode cX6_bestToAsk 54 = .ok (.istore 7, 2) := by decide +kernel
theorem dX6_bestToAsk_56 : decode cX6_bestToAsk 56 = .ok (.aload_n 1, 1) := by decide +kernel
theorem dX6_bestToAsk_57 : decode cX6_bestToAsk 57 = .ok (.getfield 40, 3) := by decide +kernel
theorem dX6_bestToAsk_60 : decode cX6_bestToAsk 60 = .ok (.iload 5, 2) := by decide +kernel
theorem dX6_bestToAsk_62 : decode cX6_bestToAsk 62 = .ok (.ishr, 1) := by decide +kernel
theorem dX6_bestToAsk_63 : decode cX6_bestToAsk 63 = .ok (.iconst 1, 1) := by decide +kernel
theorem dX6_bestToAsk_64 : decode cX6_bestToAsk 64 = .ok (.iand, 1) := by decide +kernel
theorem dX6_bestToAsk_65 : decode cX6_bestToAsk 65 = .ok (.ifCond .ne 17, 3) := by decide +kernel
theorem dX6_bestToAsk_68 : decode cX6_bestToAsk 68 = .ok (.iload 7, 2) := by decide +kernel
theorem dX6_bestToAsk_70 : decode cX6_bestToAsk 70 = .ok (.iload 4, 2) := by decide +kernel
theorem dX6_bestToAsk_72 : decode cX6_bestToAsk 72 = .ok (.if_icmp .ge 10, 3) := by decide +kernel
theorem dX6_bestToAsk_75 : decode cX6_bestToAsk 75 = .ok (.iload 5, 2) := by decide +kernel
theorem dX6_bestToAsk_77 : decode cX6_bestToAsk 77 = .ok (.istore_n 3, 1) := by decide +kernel
theorem dX6_bestToAsk_78 : decode cX6_bestToAsk 78 = .ok (.iload 7, 2) := by decide +kernel
theorem dX6_bestToAsk_80 : decode cX6_bestToAsk 80 = .ok (.istore 4, 2) := by decide +kernel
theorem dX6_bestToAsk_82 : decode cX6_bestToAsk 82 = .ok (.iinc 5 1, 3) := by decide +kernel
theorem dX6_bestToAsk_85 : decode cX6_bestToAsk 85 = .ok (.goto (-68), 3) := by decide +kernel
theorem dX6_bestToAsk_88 : decode cX6_bestToAsk 88 = .ok (.iload_n 3, 1) := by decide +kernel
theorem dX6_bestToAsk_89 : decode cX6_bestToAsk 89 = .ok (.ireturn, 1) := by decide +kernel
theorem dX6_mostWatched_0 : decode cX6_mostWatched 0 = .ok (.iconst 0, 1) := by decide +kernel
theorem dX6_mostWatched_1 : decode cX6_mostWatched 1 = .ok (.istore_n 2, 1) := by decide +kernel
theorem dX6_mostWatched_2 : decode cX6_mostWatched 2 = .ok (.iconst 0, 1) := by decide +kernel
theorem dX6_mostWatched_3 : decode cX6_mostWatched 3 = .ok (.istore_n 3, 1) := by decide +kernel
theorem dX6_mostWatched_4 : decode cX6_mostWatched 4 = .ok (.iconst 0, 1) := by decide +kernel
theorem dX6_mostWatched_5 : decode cX6_mostWatched 5 = .ok (.istore 4, 2) := by decide +kernel
theorem dX6_mostWatched_7 : decode cX6_mostWatched 7 = .ok (.iload 4, 2) := by decide +kernel
theorem dX6_mostWatched_9 : decode cX6_mostWatched 9 = .ok (.bipush 10, 2) := by decide +kernel
theorem dX6_mostWatched_11 : decode cX6_mostWatched 11 = .ok (.if_icmp .ge 33, 3) := by decide +kernel
theorem dX6_mostWatched_14 : decode cX6_mostWatched 14 = .ok (.aload_n 1, 1) := by decide +kernel
theorem dX6_mostWatched_15 : decode cX6_mostWatched 15 = .ok (.aload_n 0, 1) := by decide +kernel
theorem dX6_mostWatched_16 : decode cX6_mostWatched 16 = .ok (.iload 4, 2) := by decide +kernel
theorem dX6_mostWatched_18 : decode cX6_mostWatched 18 = .ok (.invokevirtual 33, 3) := by decide +kernel
theorem dX6_mostWatched_21 : decode cX6_mostWatched 21 = .ok (.invokestatic 49, 3) := by decide +kernel
theorem dX6_mostWatched_24 : decode cX6_mostWatched 24 = .ok (.istore 5, 2) := by decide +kernel
theorem dX6_mostWatched_26 : decode cX6_mostWatched 26 = .ok (.iload 5, 2) := by decide +kernel
theorem dX6_mostWatched_28 : decode cX6_mostWatched 28 = .ok (.iload_n 3, 1) := by decide +kernel
theorem dX6_mostWatched_29 : decode cX6_mostWatched 29 = .ok (.if_icmp .le 9, 3) := by decide +kernel
theorem dX6_mostWatched_32 : decode cX6_mostWatched 32 = .ok (.iload 4, 2) := by decide +kernel
theorem dX6_mostWatched_34 : decode cX6_mostWatched 34 = .ok (.istore_n 2, 1) := by decide +kernel
theorem dX6_mostWatched_35 : decode cX6_mostWatched 35 = .ok (.iload 5, 2) := by decide +kernel
theorem dX6_mostWatched_37 : decode cX6_mostWatched 37 = .ok (.istore_n 3, 1) := by decide +kernel
theorem dX6_mostWatched_38 : decode cX6_mostWatched 38 = .ok (.iinc 4 1, 3) := by decide +kernel
theorem dX6_mostWatched_41 : decode cX6_mostWatched 41 = .ok (.goto (-34), 3) := by decide +kernel
theorem dX6_mostWatched_44 : decode cX6_mostWatched 44 = .ok (.iload_n 2, 1) := by decide +kernel
theorem dX6_mostWatched_45 : decode cX6_mostWatched 45 = .ok (.ireturn, 1) := by decide +kernel
theorem dX6_mostPeopled_0 : decode cX6_mostPeopled 0 = .ok (.iconst 0, 1) := by decide +kernel
theorem dX6_mostPeopled_1 : decode cX6_mostPeopled 1 = .ok (.istore_n 3, 1) := by decide +kernel
theorem dX6_mostPeopled_2 : decode cX6_mostPeopled 2 = .ok (.iconst 0, 1) := by decide +kernel
theorem dX6_mostPeopled_3 : decode cX6_mostPeopled 3 = .ok (.istore 4, 2) := by decide +kernel
theorem dX6_mostPeopled_5 : decode cX6_mostPeopled 5 = .ok (.iconst 0, 1) := by decide +kernel
theorem dX6_mostPeopled_6 : decode cX6_mostPeopled 6 = .ok (.istore 5, 2) := by decide +kernel
theorem dX6_mostPeopled_8 : decode cX6_mostPeopled 8 = .ok (.iload 5, 2) := by decide +kernel
theorem dX6_mostPeopled_10 : decode cX6_mostPeopled 10 = .ok (.iload_n 2, 1) := by decide +kernel
theorem dX6_mostPeopled_11 : decode cX6_mostPeopled 11 = .ok (.iadd, 1) := by decide +kernel
theorem dX6_mostPeopled_12 : decode cX6_mostPeopled 12 = .ok (.bipush 10, 2) := by decide +kernel
theorem dX6_mostPeopled_14 : decode cX6_mostPeopled 14 = .ok (.if_icmp .gt 79, 3) := by decide +kernel
theorem dX6_mostPeopled_17 : decode cX6_mostPeopled 17 = .ok (.iconst 0, 1) := by decide +kernel
theorem dX6_mostPeopled_18 : decode cX6_mostPeopled 18 = .ok (.istore 6, 2) := by decide +kernel
theorem dX6_mostPeopled_20 : decode cX6_mostPeopled 20 = .ok (.iconst 0, 1) := by decide +kernel
theorem dX6_mostPeopled_21 : decode cX6_mostPeopled 21 = .ok (.istore 7, 2) := by decide +kernel
theorem dX6_mostPeopled_23 : decode cX6_mostPeopled 23 = .ok (.iload 7, 2) := by decide +kernel
theorem dX6_mostPeopled_25 : decode cX6_mostPeopled 25 = .ok (.aload_n 0, 1) := by decide +kernel
theorem dX6_mostPeopled_26 : decode cX6_mostPeopled 26 = .ok (.getfield 58, 3) := by decide +kernel
theorem dX6_mostPeopled_29 : decode cX6_mostPeopled 29 = .ok (.if_icmp .ge 44, 3) := by decide +kernel
theorem dX6_mostPeopled_32 : decode cX6_mostPeopled 32 = .ok (.aload_n 1, 1) := by decide +kernel
theorem dX6_mostPeopled_33 : decode cX6_mostPeopled 33 = .ok (.getfield 61, 3) := by decide +kernel
theorem dX6_mostPeopled_36 : decode cX6_mostPeopled 36 = .ok (.iload 7, 2) := by decide +kernel
theorem dX6_mostPeopled_38 : decode cX6_mostPeopled 38 = .ok (.iaload, 1) := by decide +kernel
theorem dX6_mostPeopled_39 : decode cX6_mostPeopled 39 = .ok (.istore 8, 2) := by decide +kernel
theorem dX6_mostPeopled_41 : decode cX6_mostPeopled 41 = .ok (.iload 6, 2) := by decide +kernel
theorem dX6_mostPeopled_43 : decode cX6_mostPeopled 43 = .ok (.iload 8, 2) := by decide +kernel
theorem dX6_mostPeopled_45 : decode cX6_mostPeopled 45 = .ok (.iload 5, 2) := by decide +kernel
theorem dX6_mostPeopled_47 : decode cX6_mostPeopled 47 = .ok (.if_icmp .lt 16, 3) := by decide +kernel
theorem dX6_mostPeopled_50 : decode cX6_mostPeopled 50 = .ok (.iload 8, 2) := by decide +kernel
theorem dX6_mostPeopled_52 : decode cX6_mostPeopled 52 = .ok (.iload 5, 2) := by decide +kernel
theorem dX6_mostPeopled_54 : decode cX6_mostPeopled 54 = .ok (.iload_n 2, 1) := by decide +kernel
theorem dX6_mostPeopled_55 : decode cX6_mostPeopled 55 = .ok (.iadd, 1) := by decide +kernel
theorem dX6_mostPeopled_56 : decode cX6_mostPeopled 56 = .ok (.if_icmp .ge 7, 3) := by decide +kernel
theorem dX6_mostPeopled_59 : decode cX6_mostPeopled 59 = .ok (.iconst 1, 1) := by decide +kernel
theorem dX6_mostPeopled_60 : decode cX6_mostPeopled 60 = .ok (.goto 4, 3) := by decide +kernel
theorem dX6_mostPeopled_63 : decode cX6_mostPeopled 63 = .ok (.iconst 0, 1) := by decide +kernel
theorem dX6_mostPeopled_64 : decode cX6_mostPeopled 64 = .ok (.iadd, 1) := by decide +kernel
theorem dX6_mostPeopled_65 : decode cX6_mostPeopled 65 = .ok (.istore 6, 2) := by decide +kernel
theorem dX6_mostPeopled_67 : decode cX6_mostPeopled 67 = .ok (.iinc 7 1, 3) := by decide +kernel
theorem dX6_mostPeopled_70 : decode cX6_mostPeopled 70 = .ok (.goto (-47), 3) := by decide +kernel
theorem dX6_mostPeopled_73 : decode cX6_mostPeopled 73 = .ok (.iload 6, 2) := by decide +kernel
theorem dX6_mostPeopled_75 : decode cX6_mostPeopled 75 = .ok (.iload 4, 2) := by decide +kernel
theorem dX6_mostPeopled_77 : decode cX6_mostPeopled 77 = .ok (.if_icmp .le 10, 3) := by decide +kernel
theorem dX6_mostPeopled_80 : decode cX6_mostPeopled 80 = .ok (.iload 5, 2) := by decide +kernel
theorem dX6_mostPeopled_82 : decode cX6_mostPeopled 82 = .ok (.istore_n 3, 1) := by decide +kernel
theorem dX6_mostPeopled_83 : decode cX6_mostPeopled 83 = .ok (.iload 6, 2) := by decide +kernel
theorem dX6_mostPeopled_85 : decode cX6_mostPeopled 85 = .ok (.istore 4, 2) := by decide +kernel
theorem dX6_mostPeopled_87 : decode cX6_mostPeopled 87 = .ok (.iinc 5 1, 3) := by decide +kernel
theorem dX6_mostPeopled_90 : decode cX6_mostPeopled 90 = .ok (.goto (-82), 3) := by decide +kernel
theorem dX6_mostPeopled_93 : decode cX6_mostPeopled 93 = .ok (.iload_n 3, 1) := by decide +kernel
theorem dX6_mostPeopled_94 : decode cX6_mostPeopled 94 = .ok (.ireturn, 1) := by decide +kernel
theorem dX7_init_0 : decode cX7_init 0 = .ok (.aload_n 0, 1) := by decide +kernel
theorem dX7_init_1 : decode cX7_init 1 = .ok (.invokespecial 3, 3) := by decide +kernel
theorem dX7_init_4 : decode cX7_init 4 = .ok (.aload_n 0, 1) := by decide +kernel
theorem dX7_init_5 : decode cX7_init 5 = .ok (.new 9, 3) := by decide +kernel
theorem dX7_init_8 : decode cX7_init 8 = .ok (.dup, 1) := by decide +kernel
theorem dX7_init_9 : decode cX7_init 9 = .ok (.invokespecial 11, 3) := by decide +kernel
theorem dX7_init_12 : decode cX7_init 12 = .ok (.putfield 12, 3) := by decide +kernel
theorem dX7_init_15 : decode cX7_init 15 = .ok (.aload_n 0, 1) := by decide +kernel
theorem dX7_init_16 : decode cX7_init 16 = .ok (.bipush 6, 2) := by decide +kernel
theorem dX7_init_18 : decode cX7_init 18 = .ok (.newarray .int, 2) := by decide +kernel
theorem dX7_init_20 : decode cX7_init 20 = .ok (.putfield 18, 3) := by decide +kernel
theorem dX7_init_23 : decode cX7_init 23 = .ok (.aload_n 0, 1) := by decide +kernel
theorem dX7_init_24 : decode cX7_init 24 = .ok (.bipush 6, 2) := by decide +kernel
theorem dX7_init_26 : decode cX7_init 26 = .ok (.newarray .int, 2) := by decide +kernel
theorem dX7_init_28 : decode cX7_init 28 = .ok (.putfield 22, 3) := by decide +kernel
theorem dX7_init_31 : decode cX7_init 31 = .ok (.aload_n 0, 1) := by decide +kernel
theorem dX7_init_32 : decode cX7_init 32 = .ok (.bipush 6, 2) := by decide +kernel
theorem dX7_init_34 : decode cX7_init 34 = .ok (.newarray .int, 2) := by decide +kernel
theorem dX7_init_36 : decode cX7_init 36 = .ok (.putfield 25, 3) := by decide +kernel
theorem dX7_init_39 : decode cX7_init 39 = .ok (.aload_n 0, 1) := by decide +kernel
theorem dX7_init_40 : decode cX7_init 40 = .ok (.iconst 5, 1) := by decide +kernel
theorem dX7_init_41 : decode cX7_init 41 = .ok (.newarray .int, 2) := by decide +kernel
theorem dX7_init_43 : decode cX7_init 43 = .ok (.putfield 28, 3) := by decide +kernel
theorem dX7_init_46 : decode cX7_init 46 = .ok (.aload_n 0, 1) := by decide +kernel
theorem dX7_init_47 : decode cX7_init 47 = .ok (.iconst 5, 1) := by decide +kernel
theorem dX7_init_48 : decode cX7_init 48 = .ok (.newarray .int, 2) := by decide +kernel
theorem dX7_init_50 : decode cX7_init 50 = .ok (.putfield 31, 3) := by decide +kernel
theorem dX7_init_53 : decode cX7_init 53 = .ok (.aload_n 0, 1) := by decide +kernel
theorem dX7_init_54 : decode cX7_init 54 = .ok (.bipush 12, 2) := by decide +kernel
theorem dX7_init_56 : decode cX7_init 56 = .ok (.newarray .int, 2) := by decide +kernel
theorem dX7_init_58 : decode cX7_init 58 = .ok (.putfield 34, 3) := by decide +kernel
theorem dX7_init_61 : decode cX7_init 61 = .ok (.aload_n 0, 1) := by decide +kernel
theorem dX7_init_62 : decode cX7_init 62 = .ok (.bipush 6, 2) := by decide +kernel
theorem dX7_init_64 : decode cX7_init 64 = .ok (.newarray .long, 2) := by decide +kernel
theorem dX7_init_66 : decode cX7_init 66 = .ok (.putfield 37, 3) := by decide +kernel
theorem dX7_init_69 : decode cX7_init 69 = .ok (.aload_n 0, 1) := by decide +kernel
theorem dX7_init_70 : decode cX7_init 70 = .ok (.iconst 5, 1) := by decide +kernel
theorem dX7_init_71 : decode cX7_init 71 = .ok (.newarray .long, 2) := by decide +kernel
theorem dX7_init_73 : decode cX7_init 73 = .ok (.putfield 41, 3) := by decide +kernel
theorem dX7_init_76 : decode cX7_init 76 = .ok (.aload_n 0, 1) := by decide +kernel
theorem dX7_init_77 : decode cX7_init 77 = .ok (.iconst 5, 1) := by decide +kernel
theorem dX7_init_78 : decode cX7_init 78 = .ok (.newarray .long, 2) := by decide +kernel
theorem dX7_init_80 : decode cX7_init 80 = .ok (.putfield 44, 3) := by decide +kernel
theorem dX7_init_83 : decode cX7_init 83 = .ok (.aload_n 0, 1) := by decide +kernel
theorem dX7_init_84 : decode cX7_init 84 = .ok (.iconst 0, 1) := by decide +kernel
theorem dX7_init_85 : decode cX7_init 85 = .ok (.putfield 47, 3) := by decide +kernel
theorem dX7_init_88 : decode cX7_init 88 = .ok (.aload_n 0, 1) := by decide +kernel
theorem dX7_init_89 : decode cX7_init 89 = .ok (.iconst 0, 1) := by decide +kernel
theorem dX7_init_90 : decode cX7_init 90 = .ok (.putfield 51, 3) := by decide +kernel
theorem dX7_init_93 : decode cX7_init 93 = .ok (.aload_n 0, 1) := by decide +kernel
theorem dX7_init_94 : decode cX7_init 94 = .ok (.iconst 0, 1) := by decide +kernel
theorem dX7_init_95 : decode cX7_init 95 = .ok (.putfield 54, 3) := by decide +kernel
theorem dX7_init_98 : decode cX7_init 98 = .ok (.aload_n 0, 1) := by decide +kernel
theorem dX7_init_99 : decode cX7_init 99 = .ok (.iconst 0, 1) := by decide +kernel
theorem dX7_init_100 : decode cX7_init 100 = .ok (.putfield 57, 3) := by decide +kernel
theorem dX7_init_103 : decode cX7_init 103 = .ok (.return_, 1) := by decide +kernel
theorem dX7_clear_0 : decode cX7_clear 0 = .ok (.aload_n 0, 1) := by decide +kernel
theorem dX7_clear_1 : decode cX7_clear 1 = .ok (.getfield 12, 3) := by decide +kernel
theorem dX7_clear_4 : decode cX7_clear 4 = .ok (.invokevirtual 60, 3) := by decide +kernel
theorem dX7_clear_7 : decode cX7_clear 7 = .ok (.aload_n 0, 1) := by decide +kernel
theorem dX7_clear_8 : decode cX7_clear 8 = .ok (.iconst 0, 1) := by decide +kernel
theorem dX7_clear_9 : decode cX7_clear 9 = .ok (.putfield 47, 3) := by decide +kernel
theorem dX7_clear_12 : decode cX7_clear 12 = .ok (.aload_n 0, 1) := by decide +kernel
theorem dX7_clear_13 : decode cX7_clear 13 = .ok (.iconst 0, 1) := by decide +kernel
theorem dX7_clear_14 : decode cX7_clear 14 = .ok (.putfield 51, 3) := by decide +kernel
theorem dX7_clear_17 : decode cX7_clear 17 = .ok (.aload_n 0, 1) := by decide +kernel
theorem dX7_clear_18 : decode cX7_clear 18 = .ok (.iconst 0, 1) := by decide +kernel
theorem dX7_clear_19 : decode cX7_clear 19 = .ok (.putfield 54, 3) := by decide +kernel
theorem dX7_clear_22 : decode cX7_clear 22 = .ok (.aload_n 0, 1) := by decide +kernel
theorem dX7_clear_23 : decode cX7_clear 23 = .ok (.iconst 0, 1) := by decide +kernel
theorem dX7_clear_24 : decode cX7_clear 24 = .ok (.putfield 57, 3) := by decide +kernel
theorem dX7_clear_27 : decode cX7_clear 27 = .ok (.return_, 1) := by decide +kernel
theorem dX7_hasPane_0 : decode cX7_hasPane 0 = .ok (.iload_n 1, 1) := by decide +kernel
theorem dX7_hasPane_1 : decode cX7_hasPane 1 = .ok (.ifCond .lt 15, 3) := by decide +kernel
theorem dX7_hasPane_4 : decode cX7_hasPane 4 = .ok (.iload_n 1, 1) := by decide +kernel
theorem dX7_hasPane_5 : decode cX7_hasPane 5 = .ok (.aload_n 0, 1) := by decide +kernel
theorem dX7_hasPane_6 : decode cX7_hasPane 6 = .ok (.getfield 47, 3) := by decide +kernel
theorem dX7_hasPane_9 : decode cX7_hasPane 9 = .ok (.if_icmp .ge 7, 3) := by decide +kernel
theorem dX7_hasPane_12 : decode cX7_hasPane 12 = .ok (.iconst 1, 1) := by decide +kernel
theorem dX7_hasPane_13 : decode cX7_hasPane 13 = .ok (.goto 4, 3) := by decide +kernel
theorem dX7_hasPane_16 : decode cX7_hasPane 16 = .ok (.iconst 0, 1) := by decide +kernel
theorem dX7_hasPane_17 : decode cX7_hasPane 17 = .ok (.ireturn, 1) := by decide +kernel
theorem dX7_hasPerson_0 : decode cX7_hasPerson 0 = .ok (.iload_n 1, 1) := by decide +kernel
theorem dX7_hasPerson_1 : decode cX7_hasPerson 1 = .ok (.ifCond .lt 15, 3) := by decide +kernel
theorem dX7_hasPerson_4 : decode cX7_hasPerson 4 = .ok (.iload_n 1, 1) := by decide +kernel
theorem dX7_hasPerson_5 : decode cX7_hasPerson 5 = .ok (.aload_n 0, 1) := by decide +kernel
theorem dX7_hasPerson_6 : decode cX7_hasPerson 6 = .ok (.getfield 51, 3) := by decide +kernel
theorem dX7_hasPerson_9 : decode cX7_hasPerson 9 = .ok (.if_icmp .ge 7, 3) := by decide +kernel
theorem dX7_hasPerson_12 : decode cX7_hasPerson 12 = .ok (.iconst 1, 1) := by decide +kernel
theorem dX7_hasPerson_13 : decode cX7_hasPerson 13 = .ok (.goto 4, 3) := by decide +kernel
theorem dX7_hasPerson_16 : decode cX7_hasPerson 16 = .ok (.iconst 0, 1) := by decide +kernel
theorem dX7_hasPerson_17 : decode cX7_hasPerson 17 = .ok (.ireturn, 1) := by decide +kernel
theorem dX7_hasDeed_0 : decode cX7_hasDeed 0 = .ok (.iload_n 1, 1) := by decide +kernel
theorem dX7_hasDeed_1 : decode cX7_hasDeed 1 = .ok (.ifCond .lt 15, 3) := by decide +kernel
theorem dX7_hasDeed_4 : decode cX7_hasDeed 4 = .ok (.iload_n 1, 1) := by decide +kernel
theorem dX7_hasDeed_5 : decode cX7_hasDeed 5 = .ok (.aload_n 0, 1) := by decide +kernel
theorem dX7_hasDeed_6 : decode cX7_hasDeed 6 = .ok (.getfield 54, 3) := by decide +kernel
theorem dX7_hasDeed_9 : decode cX7_hasDeed 9 = .ok (.if_icmp .ge 7, 3) := by decide +kernel
theorem dX7_hasDeed_12 : decode cX7_hasDeed 12 = .ok (.iconst 1, 1) := by decide +kernel
theorem dX7_hasDeed_13 : decode cX7_hasDeed 13 = .ok (.goto 4, 3) := by decide +kernel
theorem dX7_hasDeed_16 : decode cX7_hasDeed 16 = .ok (.iconst 0, 1) := by decide +kernel
theorem dX7_hasDeed_17 : decode cX7_hasDeed 17 = .ok (.ireturn, 1) := by decide +kernel
theorem dX7_isTold_0 : decode cX7_isTold 0 = .ok (.aload_n 0, 1) := by decide +kernel
theorem dX7_isTold_1 : decode cX7_isTold 1 = .ok (.getfield 37, 3) := by decide +kernel
theorem dX7_isTold_4 : decode cX7_isTold 4 = .ok (.aload_n 0, 1) := by decide +kernel
theorem dX7_isTold_5 : decode cX7_isTold 5 = .ok (.getfield 47, 3) := by decide +kernel
theorem dX7_isTold_8 : decode cX7_isTold 8 = .ok (.lload_n 1, 1) := by decide +kernel
theorem dX7_isTold_9 : decode cX7_isTold 9 = .ok (.invokestatic 63, 3) := by decide +kernel
theorem dX7_isTold_12 : decode cX7_isTold 12 = .ok (.iconst (-1), 1) := by decide +kernel
theorem dX7_isTold_13 : decode cX7_isTold 13 = .ok (.if_icmp .ne 35, 3) := by decide +kernel
theorem dX7_isTold_16 : decode cX7_isTold 16 = .ok (.aload_n 0, 1) := by decide +kernel
theorem dX7_isTold_17 : decode cX7_isTold 17 = .ok (.getfield 41, 3) := by decide +kernel
theorem dX7_isTold_20 : decode cX7_isTold 20 = .ok (.aload_n 0, 1) := by decide +kernel
theorem dX7_isTold_21 : decode cX7_isTold 21 = .ok (.getfield 51, 3) := by decide +kernel
theorem dX7_isTold_24 : decode cX7_isTold 24 = .ok (.lload_n 1, 1) := by decide +kernel
theorem dX7_isTold_25 : decode cX7_isTold 25 = .ok (.invokestatic 63, 3) := by decide +kernel
theorem dX7_isTold_28 : decode cX7_isTold 28 = .ok (.iconst (-1), 1) := by decide +kernel
theorem dX7_isTold_29 : decode cX7_isTold 29 = .ok (.if_icmp .ne 19, 3) := by decide +kernel
theorem dX7_isTold_32 : decode cX7_isTold 32 = .ok (.aload_n 0, 1) := by decide +kernel
theorem dX7_isTold_33 : decode cX7_isTold 33 = .ok (.getfield 44, 3) := by decide +kernel
theorem dX7_isTold_36 : decode cX7_isTold 36 = .ok (.aload_n 0, 1) := by decide +kernel
theorem dX7_isTold_37 : decode cX7_isTold 37 = .ok (.getfield 54, 3) := by decide +kernel
theorem dX7_isTold_40 : decode cX7_isTold 40 = .ok (.lload_n 1, 1) := by decide +kernel
theorem dX7_isTold_41 : decode cX7_isTold 41 = .ok (.invokestatic 63, 3) := by decide +kernel
theorem dX7_isTold_44 : decode cX7_isTold 44 = .ok (.iconst (-1), 1) := by decide +kernel
theorem dX7_isTold_45 : decode cX7_isTold 45 = .ok (.if_icmp .eq 7, 3) := by decide +kernel
theorem dX7_isTold_48 : decode cX7_isTold 48 = .ok (.iconst 1, 1) := by decide +kernel
theorem dX7_isTold_49 : decode cX7_isTold 49 = .ok (.goto 4, 3) := by decide +kernel
theorem dX7_isTold_52 : decode cX7_isTold 52 = .ok (.iconst 0, 1) := by decide +kernel
theorem dX7_isTold_53 : decode cX7_isTold 53 = .ok (.ireturn, 1) := by decide +kernel
theorem dX7_lightAt_0 : decode cX7_lightAt 0 = .ok (.aload_n 0, 1) := by decide +kernel
theorem dX7_lightAt_1 : decode cX7_lightAt 1 = .ok (.getfield 57, 3) := by decide +kernel
theorem dX7_lightAt_4 : decode cX7_lightAt 4 = .ok (.ifCond .gt 7, 3) := by decide +kernel
theorem dX7_lightAt_7 : decode cX7_lightAt 7 = .ok (.iconst 1, 1) := by decide +kernel
theorem dX7_lightAt_8 : decode cX7_lightAt 8 = .ok (.goto 16, 3) := by decide +kernel
theorem dX7_lightAt_11 : decode cX7_lightAt 11 = .ok (.aload_n 0, 1) := by decide +kernel
theorem dX7_lightAt_12 : decode cX7_lightAt 12 = .ok (.getfield 34, 3) := by decide +kernel
theorem dX7_lightAt_15 : decode cX7_lightAt 15 = .ok (.iload_n 1, 1) := by decide +kernel
theorem dX7_lightAt_16 : decode cX7_lightAt 16 = .ok (.aload_n 0, 1) := by decide +kernel
theorem dX7_lightAt_17 : decode cX7_lightAt 17 = .ok (.getfield 57, 3) := by decide +kernel
theorem dX7_lightAt_20 : decode cX7_lightAt 20 = .ok (.invokestatic 67, 3) := by decide +kernel
theorem dX7_lightAt_23 : decode cX7_lightAt 23 = .ok (.iaload, 1) := by decide +kernel
theorem dX7_lightAt_24 : decode cX7_lightAt 24 = .ok (.ireturn, 1) := by decide +kernel
theorem dX7_placeOf_0 : decode cX7_placeOf 0 = .ok (.iconst 0, 1) := by decide +kernel
theorem dX7_placeOf_1 : decode cX7_placeOf 1 = .ok (.istore 4, 2) := by decide +kernel
theorem dX7_placeOf_3 : decode cX7_placeOf 3 = .ok (.iload 4, 2) := by decide +kernel
theorem dX7_placeOf_5 : decode cX7_placeOf 5 = .ok (.iload_n 1, 1) := by decide +kernel
theorem dX7_placeOf_6 : decode cX7_placeOf 6 = .ok (.if_icmp .ge 28, 3) := by decide +kernel
theorem dX7_placeOf_9 : decode cX7_placeOf 9 = .ok (.iload 4, 2) := by decide +kernel
theorem dX7_placeOf_11 : decode cX7_placeOf 11 = .ok (.aload_n 0, 1) := by decide +kernel
theorem dX7_placeOf_12 : decode cX7_placeOf 12 = .ok (.arraylength, 1) := by decide +kernel
theorem dX7_placeOf_13 : decode cX7_placeOf 13 = .ok (.if_icmp .ge 21, 3) := by decide +kernel
theorem dX7_placeOf_16 : decode cX7_placeOf 16 = .ok (.aload_n 0, 1) := by decide +kernel
theorem dX7_placeOf_17 : decode cX7_placeOf 17 = .ok (.iload 4, 2) := by decide +kernel
theorem dX7_placeOf_19 : decode cX7_placeOf 19 = .ok (.laload, 1) := by decide +kernel
theorem dX7_placeOf_20 : decode cX7_placeOf 20 = .ok (.lload_n 2, 1) := by decide +kernel
theorem dX7_placeOf_21 : decode cX7_placeOf 21 = .ok (.lcmp, 1) := by decide +kernel
theorem dX7_placeOf_22 : decode cX7_placeOf 22 = .ok (.ifCond .ne 6, 3) := by decide +kernel
theorem dX7_placeOf_25 : decode cX7_placeOf 25 = .ok (.iload 4, 2) := by decide +kernel
theorem dX7_placeOf_27 : decode cX7_placeOf 27 = .ok (.ireturn, 1) := by decide +kernel
theorem dX7_placeOf_28 : decode cX7_placeOf 28 = .ok (.iinc 4 1, 3) := by decide +kernel
theorem dX7_placeOf_31 : decode cX7_placeOf 31 = .ok (.goto (-28), 3) := by decide +kernel
theorem dX7_placeOf_34 : decode cX7_placeOf 34 = .ok (.iconst (-1), 1) := by decide +kernel
theorem dX7_placeOf_35 : decode cX7_placeOf 35 = .ok (.ireturn, 1) := by decide +kernel
theorem dX7_bothWays_0 : decode cX7_bothWays 0 = .ok (.iload_n 0, 1) := by decide +kernel
theorem dX7_bothWays_1 : decode cX7_bothWays 1 = .ok (.istore_n 1, 1) := by decide +kernel
theorem dX7_bothWays_2 : decode cX7_bothWays 2 = .ok (.iconst 0, 1) := by decide +kernel
theorem dX7_bothWays_3 : decode cX7_bothWays 3 = .ok (.istore_n 2, 1) := by decide +kernel
theorem dX7_bothWays_4 : decode cX7_bothWays 4 = .ok (.iload_n 2, 1) := by decide +kernel
theorem dX7_bothWays_5 : decode cX7_bothWays 5 = .ok (.bipush 10, 2) := by decide +kernel
theorem dX7_bothWays_7 : decode cX7_bothWays 7 = .ok (.if_icmp .ge 26, 3) := by decide +kernel
theorem dX7_bothWays_10 : decode cX7_bothWays 10 = .ok (.iload_n 0, 1) := by decide +kernel
theorem dX7_bothWays_11 : decode cX7_bothWays 11 = .ok (.iload_n 2, 1) := by decide +kernel
theorem dX7_bothWays_12 : decode cX7_bothWays 12 = .ok (.ishr, 1) := by decide +kernel
theorem dX7_bothWays_13 : decode cX7_bothWays 13 = .ok (.iconst 1, 1) := by decide +kernel
theorem dX7_bothWays_14 : decode cX7_bothWays 14 = .ok (.iand, 1) := by decide +kernel
theorem dX7_bothWays_15 : decode cX7_bothWays 15 = .ok (.ifCond .eq 12, 3) := by decide +kernel
theorem dX7_bothWays_18 : decode cX7_bothWays 18 = .ok (.iload_n 1, 1) := by decide +kernel
theorem dX7_bothWays_19 : decode cX7_bothWays 19 = .ok (.iconst 1, 1) := by decide +kernel
theorem dX7_bothWays_20 : decode cX7_bothWays 20 = .ok (.bipush 9, 2) := by decide +kernel
theorem dX7_bothWays_22 : decode cX7_bothWays 22 = .ok (.iload_n 2, 1) := by decide +kernel
theorem dX7_bothWays_23 : decode cX7_bothWays 23 = .ok (.isub, 1) := by decide +kernel
theorem dX7_bothWays_24 : decode cX7_bothWays 24 = .ok (.ishl, 1) := by decide +kernel
theorem dX7_bothWays_25 : decode cX7_bothWays 25 = .ok (.ior, 1) := by decide +kernel
theorem dX7_bothWays_26 : decode cX7_bothWays 26 = .ok (.istore_n 1, 1) := by decide +kernel
theorem dX7_bothWays_27 : decode cX7_bothWays 27 = .ok (.iinc 2 1, 3) := by decide +kernel
theorem dX7_bothWays_30 : decode cX7_bothWays 30 = .ok (.goto (-26), 3) := by decide +kernel
theorem dX7_bothWays_33 : decode cX7_bothWays 33 = .ok (.iload_n 1, 1) := by decide +kernel
theorem dX7_bothWays_34 : decode cX7_bothWays 34 = .ok (.ireturn, 1) := by decide +kernel
theorem dX8_reads_0 : decode cX8_reads 0 = .ok (.aload_n 1, 1) := by decide +kernel
theorem dX8_reads_1 : decode cX8_reads 1 = .ok (.invokevirtual 9, 3) := by decide +kernel
theorem dX8_reads_4 : decode cX8_reads 4 = .ok (.aload_n 0, 1) := by decide +kernel
theorem dX8_reads_5 : decode cX8_reads 5 = .ok (.invokevirtual 14, 3) := by decide +kernel
theorem dX8_reads_8 : decode cX8_reads 8 = .ok (.iconst 0, 1) := by decide +kernel
theorem dX8_reads_9 : decode cX8_reads 9 = .ok (.istore_n 2, 1) := by decide +kernel
theorem dX8_reads_10 : decode cX8_reads 10 = .ok (.iload_n 2, 1) := by decide +kernel
theorem dX8_reads_11 : decode cX8_reads 11 = .ok (.sipush 1000, 3) := by decide +kernel
theorem dX8_reads_14 : decode cX8_reads 14 = .ok (.if_icmp .ge 35, 3) := by decide +kernel
theorem dX8_reads_17 : decode cX8_reads 17 = .ok (.aload_n 0, 1) := by decide +kernel
theorem dX8_reads_18 : decode cX8_reads 18 = .ok (.invokevirtual 19, 3) := by decide +kernel
theorem dX8_reads_21 : decode cX8_reads 21 = .ok (.ifCond .ne 28, 3) := by decide +kernel
theorem dX8_reads_24 : decode cX8_reads 24 = .ok (.aload_n 0, 1) := by decide +kernel
theorem dX8_reads_25 : decode cX8_reads 25 = .ok (.aload_n 1, 1) := by decide +kernel
theorem dX8_reads_26 : decode cX8_reads 26 = .ok (.invokestatic 23, 3) := by decide +kernel
theorem dX8_reads_29 : decode cX8_reads 29 = .ok (.ifCond .eq 12, 3) := by decide +kernel
theorem dX8_reads_32 : decode cX8_reads 32 = .ok (.aload_n 0, 1) := by decide +kernel
theorem dX8_reads_33 : decode cX8_reads 33 = .ok (.bipush 59, 2) := by decide +kernel
theorem dX8_reads_35 : decode cX8_reads 35 = .ok (.invokevirtual 29, 3) := by decide +kernel
theorem dX8_reads_38 : decode cX8_reads 38 = .ok (.ifCond .ne 5, 3) := by decide +kernel
theorem dX8_reads_41 : decode cX8_reads 41 = .ok (.iconst 0, 1) := by decide +kernel
theorem dX8_reads_42 : decode cX8_reads 42 = .ok (.ireturn, 1) := by decide +kernel
theorem dX8_reads_43 : decode cX8_reads 43 = .ok (.iinc 2 1, 3) := by decide +kernel
theorem dX8_reads_46 : decode cX8_reads 46 = .ok (.goto (-36), 3) := by decide +kernel
theorem dX8_reads_49 : decode cX8_reads 49 = .ok (.iconst 1, 1) := by decide +kernel
theorem dX8_reads_50 : decode cX8_reads 50 = .ok (.ireturn, 1) := by decide +kernel
theorem dX8_readsLine_0 : decode cX8_readsLine 0 = .ok (.aload_n 0, 1) := by decide +kernel
theorem dX8_readsLine_1 : decode cX8_readsLine 1 = .ok (.getfield 33, 3) := by decide +kernel
theorem dX8_readsLine_4 : decode cX8_readsLine 4 = .ok (.tableswitch 66 0 4 #[36, 42, 48, 54, 60], 36) := by decide +kernel
theorem dX8_readsLine_40 : decode cX8_readsLine 40 = .ok (.aload_n 0, 1) := by decide +kernel
theorem dX8_readsLine_41 : decode cX8_readsLine 41 = .ok (.aload_n 1, 1) := by decide +kernel
theorem dX8_readsLine_42 : decode cX8_readsLine 42 = .ok (.invokestatic 37, 3) := by decide +kernel
theorem dX8_readsLine_45 : decode cX8_readsLine 45 = .ok (.ireturn, 1) := by decide +kernel
theorem dX8_readsLine_46 : decode cX8_readsLine 46 = .ok (.aload_n 0, 1) := by decide +kernel
theorem dX8_readsLine_47 : decode cX8_readsLine 47 = .ok (.aload_n 1, 1) := by decide +kernel
theorem dX8_readsLine_48 : decode cX8_readsLine 48 = .ok (.invokestatic 40, 3) := by decide +kernel
theorem dX8_readsLine_51 : decode cX8_readsLine 51 = .ok (.ireturn, 1) := by decide +kernel
theorem dX8_readsLine_52 : decode cX8_readsLine 52 = .ok (.aload_n 0, 1) := by decide +kernel
theorem dX8_readsLine_53 : decode cX8_readsLine 53 = .ok (.aload_n 1, 1) := by decide +kernel
theorem dX8_readsLine_54 : decode cX8_readsLine 54 = .ok (.invokestatic 43, 3) := by decide +kernel
theorem dX8_readsLine_57 : decode cX8_readsLine 57 = .ok (.ireturn, 1) := by decide +kernel
theorem dX8_readsLine_58 : decode cX8_readsLine 58 = .ok (.aload_n 0, 1) := by decide +kernel
theorem dX8_readsLine_59 : decode cX8_readsLine 59 = .ok (.aload_n 1, 1) := by decide +kernel
theorem dX8_readsLine_60 : decode cX8_readsLine 60 = .ok (.invokestatic 46, 3) := by decide +kernel
theorem dX8_readsLine_63 : decode cX8_readsLine 63 = .ok (.ireturn, 1) := by decide +kernel
theorem dX8_readsLine_64 : decode cX8_readsLine 64 = .ok (.aload_n 0, 1) := by decide +kernel
theorem dX8_readsLine_65 : decode cX8_readsLine 65 = .ok (.aload_n 1, 1) := by decide +kernel
theorem dX8_readsLine_66 : decode cX8_readsLine 66 = .ok (.invokestatic 49, 3) := by decide +kernel
theorem dX8_readsLine_69 : decode cX8_readsLine 69 = .ok (.ireturn, 1) := by decide +kernel
theorem dX8_readsLine_70 : decode cX8_readsLine 70 = .ok (.aload_n 0, 1) := by decide +kernel
theorem dX8_readsLine_71 : decode cX8_readsLine 71 = .ok (.iconst 1, 1) := by decide +kernel
theorem dX8_readsLine_72 : decode cX8_readsLine 72 = .ok (.invokevirtual 52, 3) := by decide +kernel
theorem dX8_readsLine_75 : decode cX8_readsLine 75 = .ok (.ireturn, 1) := by decide +kernel
theorem dX8_readsPane_0 : decode cX8_readsPane 0 = .ok (.aload_n 1, 1) := by decide +kernel
theorem dX8_readsPane_1 : decode cX8_readsPane 1 = .ok (.getfield 56, 3) := by decide +kernel
theorem dX8_readsPane_4 : decode cX8_readsPane 4 = .ok (.istore_n 2, 1) := by decide +kernel
theorem dX8_readsPane_5 : decode cX8_readsPane 5 = .ok (.iload_n 2, 1) := by decide +kernel
theorem dX8_readsPane_6 : decode cX8_readsPane 6 = .ok (.bipush 6, 2) := by decide +kernel
theorem dX8_readsPane_8 : decode cX8_readsPane 8 = .ok (.if_icmp .lt 9, 3) := by decide +kernel
theorem dX8_readsPane_11 : decode cX8_readsPane 11 = .ok (.aload_n 0, 1) := by decide +kernel
theorem dX8_readsPane_12 : decode cX8_readsPane 12 = .ok (.iconst 5, 1) := by decide +kernel
theorem dX8_readsPane_13 : decode cX8_readsPane 13 = .ok (.invokevirtual 52, 3) := by decide +kernel
theorem dX8_readsPane_16 : decode cX8_readsPane 16 = .ok (.ireturn, 1) := by decide +kernel
theorem dX8_readsPane_17 : decode cX8_readsPane 17 = .ok (.aload_n 0, 1) := by decide +kernel
theorem dX8_readsPane_18 : decode cX8_readsPane 18 = .ok (.invokevirtual 59, 3) := by decide +kernel
theorem dX8_readsPane_21 : decode cX8_readsPane 21 = .ok (.aload_n 0, 1) := by decide +kernel
theorem dX8_readsPane_22 : decode cX8_readsPane 22 = .ok (.aload_n 1, 1) := by decide +kernel
theorem dX8_readsPane_23 : decode cX8_readsPane 23 = .ok (.invokestatic 62, 3) := by decide +kernel
theorem dX8_readsPane_26 : decode cX8_readsPane 26 = .ok (.ifCond .ne 5, 3) := by decide +kernel
theorem dX8_readsPane_29 : decode cX8_readsPane 29 = .ok (.iconst 0, 1) := by decide +kernel
theorem dX8_readsPane_30 : decode cX8_readsPane 30 = .ok (.ireturn, 1) := by decide +kernel
theorem dX8_readsPane_31 : decode cX8_readsPane 31 = .ok (.aload_n 1, 1) := by decide +kernel
theorem dX8_readsPane_32 : decode cX8_readsPane 32 = .ok (.getfield 65, 3) := by decide +kernel
theorem dX8_readsPane_35 : decode cX8_readsPane 35 = .ok (.iload_n 2, 1) := by decide +kernel
theorem dX8_readsPane_36 : decode cX8_readsPane 36 = .ok (.aload_n 0, 1) := by decide +kernel
theorem dX8_readsPane_37 : decode cX8_readsPane 37 = .ok (.getfield 69, 3) := by decide +kernel
theorem dX8_readsPane_40 : decode cX8_readsPane 40 = .ok (.lastore, 1) := by decide +kernel
theorem dX8_readsPane_41 : decode cX8_readsPane 41 = .ok (.aload_n 0, 1) := by decide +kernel
theorem dX8_readsPane_42 : decode cX8_readsPane 42 = .ok (.invokevirtual 59, 3) := by decide +kernel
theorem dX8_readsPane_45 : decode cX8_readsPane 45 = .ok (.aload_n 0, 1) := by decide +kernel
theorem dX8_readsPane_46 : decode cX8_readsPane 46 = .ok (.getfield 33, 3) := by decide +kernel
theorem dX8_readsPane_49 : decode cX8_readsPane 49 = .ok (.bipush 15, 2) := by decide +kernel
theorem dX8_readsPane_51 : decode cX8_readsPane 51 = .ok (.if_icmp .lt 12, 3) := by decide +kernel
theorem dX8_readsPane_54 : decode cX8_readsPane 54 = .ok (.aload_n 0, 1) := by decide +kernel
theorem dX8_readsPane_55 : decode cX8_readsPane 55 = .ok (.getfield 33, 3) := by decide +kernel
theorem dX8_readsPane_58 : decode cX8_readsPane 58 = .ok (.bipush 18, 2) := by decide +kernel
theorem dX8_readsPane_60 : decode cX8_readsPane 60 = .ok (.if_icmp .le 9, 3) := by decide +kernel
theorem dX8_readsPane_63 : decode cX8_readsPane 63 = .ok (.aload_n 0, 1) := by decide +kernel
theorem dX8_readsPane_64 : decode cX8_readsPane 64 = .ok (.iconst 1, 1) := by decide +kernel
theorem dX8_readsPane_65 : decode cX8_readsPane 65 = .ok (.invokevirtual 52, 3) := by decide +kernel
theorem dX8_readsPane_68 : decode cX8_readsPane 68 = .ok (.ireturn, 1) := by decide +kernel
theorem dX8_readsPane_69 : decode cX8_readsPane 69 = .ok (.aload_n 1, 1) := by decide +kernel
theorem dX8_readsPane_70 : decode cX8_readsPane 70 = .ok (.getfield 73, 3) := by decide +kernel
theorem dX8_readsPane_73 : decode cX8_readsPane 73 = .ok (.iload_n 2, 1) := by decide +kernel
theorem dX8_readsPane_74 : decode cX8_readsPane 74 = .ok (.aload_n 0, 1) := by decide +kernel
theorem dX8_readsPane_75 : decode cX8_readsPane 75 = .ok (.getfield 33, 3) := by decide +kernel
theorem dX8_readsPane_78 : decode cX8_readsPane 78 = .ok (.bipush 15, 2) := by decide +kernel
theorem dX8_readsPane_80 : decode cX8_readsPane 80 = .ok (.isub, 1) := by decide +kernel
theorem dX8_readsPane_81 : decode cX8_readsPane 81 = .ok (.iastore, 1) := by decide +kernel
theorem dX8_readsPane_82 : decode cX8_readsPane 82 = .ok (.aload_n 0, 1) := by decide +kernel
theorem dX8_readsPane_83 : decode cX8_readsPane 83 = .ok (.invokevirtual 59, 3) := by decide +kernel
theorem dX8_readsPane_86 : decode cX8_readsPane 86 = .ok (.aload_n 0, 1) := by decide +kernel
theorem dX8_readsPane_87 : decode cX8_readsPane 87 = .ok (.bipush 11, 2) := by decide +kernel
theorem dX8_readsPane_89 : decode cX8_readsPane 89 = .ok (.invokevirtual 77, 3) := by decide +kernel
theorem dX8_readsPane_92 : decode cX8_readsPane 92 = .ok (.ifCond .eq 13, 3) := by decide +kernel
theorem dX8_readsPane_95 : decode cX8_readsPane 95 = .ok (.aload_n 0, 1) := by decide +kernel
theorem dX8_readsPane_96 : decode cX8_readsPane 96 = .ok (.iconst 1, 1) := by decide +kernel
theorem dX8_readsPane_97 : decode cX8_readsPane 97 = .ok (.bipush 6, 2) := by decide +kernel
theorem dX8_readsPane_99 : decode cX8_readsPane 99 = .ok (.invokevirtual 80, 3) := by decide +kernel
theorem dX8_readsPane_102 : decode cX8_readsPane 102 = .ok (.ifCond .ne 5, 3) := by decide +kernel
theorem dX8_readsPane_105 : decode cX8_readsPane 105 = .ok (.iconst 0, 1) := by decide +kernel
theorem dX8_readsPane_106 : decode cX8_readsPane 106 = .ok (.ireturn, 1) := by decide +kernel
theorem dX8_readsPane_107 : decode cX8_readsPane 107 = .ok (.aload_n 1, 1) := by decide +kernel
theorem dX8_readsPane_108 : decode cX8_readsPane 108 = .ok (.getfield 84, 3) := by decide +kernel
theorem dX8_readsPane_111 : decode cX8_readsPane 111 = .ok (.iload_n 2, 1) := by decide +kernel
theorem dX8_readsPane_112 : decode cX8_readsPane 112 = .ok (.aload_n 0, 1) := by decide +kernel
theorem dX8_readsPane_113 : decode cX8_readsPane 113 = .ok (.getfield 87, 3) := by decide +kernel
theorem dX8_readsPane_116 : decode cX8_readsPane 116 = .ok (.iastore, 1) := by decide +kernel
theorem dX8_readsPane_117 : decode cX8_readsPane 117 = .ok (.aload_n 0, 1) := by decide +kernel
theorem dX8_readsPane_118 : decode cX8_readsPane 118 = .ok (.invokevirtual 59, 3) := by decide +kernel
theorem dX8_readsPane_121 : decode cX8_readsPane 121 = .ok (.aload_n 0, 1) := by decide +kernel
theorem dX8_readsPane_122 : decode cX8_readsPane 122 = .ok (.bipush 12, 2) := by decide +kernel
theorem dX8_readsPane_124 : decode cX8_readsPane 124 = .ok (.invokevirtual 77, 3) := by decide +kernel
theorem dX8_readsPane_127 : decode cX8_readsPane 127 = .ok (.ifCond .eq 12, 3) := by decide +kernel
theorem dX8_readsPane_130 : decode cX8_readsPane 130 = .ok (.aload_n 0, 1) := by decide +kernel
theorem dX8_readsPane_131 : decode cX8_readsPane 131 = .ok (.aload_n 1, 1) := by decide +kernel
theorem dX8_readsPane_132 : decode cX8_readsPane 132 = .ok (.iload_n 2, 1) := by decide +kernel
theorem dX8_readsPane_133 : decode cX8_readsPane 133 = .ok (.invokestatic 90, 3) := by decide +kernel
theorem dX8_readsPane_136 : decode cX8_readsPane 136 = .ok (.ifCond .ne 5, 3) := by decide +kernel
theorem dX8_readsPane_139 : decode cX8_readsPane 139 = .ok (.iconst 0, 1) := by decide +kernel
theorem dX8_readsPane_140 : decode cX8_readsPane 140 = .ok (.ireturn, 1) := by decide +kernel
theorem dX8_readsPane_141 : decode cX8_readsPane 141 = .ok (.aload_n 1, 1) := by decide +kernel
theorem dX8_readsPane_142 : decode cX8_readsPane 142 = .ok (.dup, 1) := by decide +kernel
theorem dX8_readsPane_143 : decode cX8_readsPane 143 = .ok (.getfield 56, 3) := by decide +kernel
theorem dX8_readsPane_146 : decode cX8_readsPane 146 = .ok (.iconst 1, 1) := by decide +kernel
theorem dX8_readsPane_147 : decode cX8_readsPane 147 = .ok (.iadd, 1) := by decide +kernel
theorem dX8_readsPane_148 : decode cX8_readsPane 148 = .ok (.putfield 56, 3) := by decide +kernel
theorem dX8_readsPane_151 : decode cX8_readsPane 151 = .ok (.iconst 1, 1) := by decide +kernel
theorem dX8_readsPane_152 : decode cX8_readsPane 152 = .ok (.ireturn, 1) := by decide +kernel
theorem dX8_readsView_0 : decode cX8_readsView 0 = .ok (.iconst 0, 1) := by decide +kernel
theorem dX8_readsView_1 : decode cX8_readsView 1 = .ok (.istore_n 3, 1) := by decide +kernel
theorem dX8_readsView_2 : decode cX8_readsView 2 = .ok (.iconst 0, 1) := by decide +kernel
theorem dX8_readsView_3 : decode cX8_readsView 3 = .ok (.istore 4, 2) := by decide +kernel
theorem dX8_readsView_5 : decode cX8_readsView 5 = .ok (.iload 4, 2) := by decide +kernel
theorem dX8_readsView_7 : decode cX8_readsView 7 = .ok (.bipush 10, 2) := by decide +kernel
theorem dX8_readsView_9 : decode cX8_readsView 9 = .ok (.if_icmp .gt 63, 3) := by decide +kernel
theorem dX8_readsView_12 : decode cX8_readsView 12 = .ok (.iload 4, 2) := by decide +kernel
theorem dX8_readsView_14 : decode cX8_readsView 14 = .ok (.ifCond .eq 10, 3) := by decide +kernel
theorem dX8_readsView_17 : decode cX8_readsView 17 = .ok (.aload_n 0, 1) := by decide +kernel
theorem dX8_readsView_18 : decode cX8_readsView 18 = .ok (.invokevirtual 94, 3) := by decide +kernel
theorem dX8_readsView_21 : decode cX8_readsView 21 = .ok (.ifCond .eq 51, 3) := by decide +kernel
theorem dX8_readsView_24 : decode cX8_readsView 24 = .ok (.aload_n 0, 1) := by decide +kernel
theorem dX8_readsView_25 : decode cX8_readsView 25 = .ok (.iconst 0, 1) := by decide +kernel
theorem dX8_readsView_26 : decode cX8_readsView 26 = .ok (.bipush 9, 2) := by decide +kernel
theorem dX8_readsView_28 : decode cX8_readsView 28 = .ok (.invokevirtual 80, 3) := by decide +kernel
theorem dX8_readsView_31 : decode cX8_readsView 31 = .ok (.ifCond .ne 5, 3) := by decide +kernel
theorem dX8_readsView_34 : decode cX8_readsView 34 = .ok (.iconst 0, 1) := by decide +kernel
theorem dX8_readsView_35 : decode cX8_readsView 35 = .ok (.ireturn, 1) := by decide +kernel
theorem dX8_readsView_36 : decode cX8_readsView 36 = .ok (.iload_n 3, 1) := by decide +kernel
theorem dX8_readsView_37 : decode cX8_readsView 37 = .ok (.aload_n 0, 1) := by decide +kernel
theorem dX8_readsView_38 : decode cX8_readsView 38 = .ok (.getfield 87, 3) := by decide +kernel
theorem dX8_readsView_41 : decode cX8_readsView 41 = .ok (.ishr, 1) := by decide +kernel
theorem dX8_readsView_42 : decode cX8_readsView 42 = .ok (.iconst 1, 1) := by decide +kernel
theorem dX8_readsView_43 : decode cX8_readsView 43 = .ok (.iand, 1) := by decide +kernel
theorem dX8_readsView_44 : decode cX8_readsView 44 = .ok (.ifCond .eq 9, 3) := by decide +kernel
theorem dX8_readsView_47 : decode cX8_readsView 47 = .ok (.aload_n 0, 1) := by decide +kernel
theorem dX8_readsView_48 : decode cX8_readsView 48 = .ok (.iconst 3, 1) := by decide +kernel
theorem dX8_readsView_49 : decode cX8_readsView 49 = .ok (.invokevirtual 52, 3) := by decide +kernel
theorem dX8_readsView_52 : decode cX8_readsView 52 = .ok (.ireturn, 1) := by decide +kernel
theorem dX8_readsView_53 : decode cX8_readsView 53 = .ok (.iload_n 3, 1) := by decide +kernel
theorem dX8_readsView_54 : decode cX8_readsView 54 = .ok (.iconst 1, 1) := by decide +kernel
theorem dX8_readsView_55 : decode cX8_readsView 55 = .ok (.aload_n 0, 1) := by decide +kernel
theorem dX8_readsView_56 : decode cX8_readsView 56 = .ok (.getfield 87, 3) := by decide +kernel
theorem dX8_readsView_59 : decode cX8_readsView 59 = .ok (.ishl, 1) := by decide +kernel
theorem dX8_readsView_60 : decode cX8_readsView 60 = .ok (.ior, 1) := by decide +kernel
theorem dX8_readsView_61 : decode cX8_readsView 61 = .ok (.istore_n 3, 1) := by decide +kernel
theorem dX8_readsView_62 : decode cX8_readsView 62 = .ok (.aload_n 0, 1) := by decide +kernel
theorem dX8_readsView_63 : decode cX8_readsView 63 = .ok (.invokevirtual 59, 3) := by decide +kernel
theorem dX8_readsView_66 : decode cX8_readsView 66 = .ok (.iinc 4 1, 3) := by decide +kernel
theorem dX8_readsView_69 : decode cX8_readsView 69 = .ok (.goto (-64), 3) := by decide +kernel
theorem dX8_readsView_72 : decode cX8_readsView 72 = .ok (.aload_n 1, 1) := by decide +kernel
theorem dX8_readsView_73 : decode cX8_readsView 73 = .ok (.getfield 97, 3) := by decide +kernel
theorem dX8_readsView_76 : decode cX8_readsView 76 = .ok (.iload_n 2, 1) := by decide +kernel
theorem dX8_readsView_77 : decode cX8_readsView 77 = .ok (.aload_n 1, 1) := by decide +kernel
theorem dX8_readsView_78 : decode cX8_readsView 78 = .ok (.getfield 73, 3) := by decide +kernel
theorem dX8_readsView_81 : decode cX8_readsView 81 = .ok (.iload_n 2, 1) := by decide +kernel
theorem dX8_readsView_82 : decode cX8_readsView 82 = .ok (.iaload, 1) := by decide +kernel
theorem dX8_readsView_83 : decode cX8_readsView 83 = .ok (.iconst 3, 1) := by decide +kernel
theorem dX8_readsView_84 : decode cX8_readsView 84 = .ok (.if_icmp .ne 10, 3) := by decide +kernel
theorem dX8_readsView_87 : decode cX8_readsView 87 = .ok (.iload_n 3, 1) := by decide +kernel
theorem dX8_readsView_88 : decode cX8_readsView 88 = .ok (.invokestatic 100, 3) := by decide +kernel
theorem dX8_readsView_91 : decode cX8_readsView 91 = .ok (.goto 4, 3) := by decide +kernel
theorem dX8_readsView_94 : decode cX8_readsView 94 = .ok (.iload_n 3, 1) := by decide +kernel
theorem dX8_readsView_95 : decode cX8_readsView 95 = .ok (.iastore, 1) := by decide +kernel
theorem dX8_readsView_96 : decode cX8_readsView 96 = .ok (.iconst 1, 1) := by decide +kernel
theorem dX8_readsView_97 : decode cX8_readsView 97 = .ok (.ireturn, 1) := by decide +kernel
theorem dX8_readsPerson_0 : decode cX8_readsPerson 0 = .ok (.aload_n 1, 1) := by decide +kernel
theorem dX8_readsPerson_1 : decode cX8_readsPerson 1 = .ok (.getfield 104, 3) := by decide +kernel
theorem dX8_readsPerson_4 : decode cX8_readsPerson 4 = .ok (.istore_n 2, 1) := by decide +kernel
theorem dX8_readsPerson_5 : decode cX8_readsPerson 5 = .ok (.iload_n 2, 1) := by decide +kernel
theorem dX8_readsPerson_6 : decode cX8_readsPerson 6 = .ok (.iconst 5, 1) := by decide +kernel
theorem dX8_readsPerson_7 : decode cX8_readsPerson 7 = .ok (.if_icmp .lt 9, 3) := by decide +kernel
theorem dX8_readsPerson_10 : decode cX8_readsPerson 10 = .ok (.aload_n 0, 1) := by decide +kernel
theorem dX8_readsPerson_11 : decode cX8_readsPerson 11 = .ok (.iconst 5, 1) := by decide +kernel
theorem dX8_readsPerson_12 : decode cX8_readsPerson 12 = .ok (.invokevirtual 52, 3) := by decide +kernel
theorem dX8_readsPerson_15 : decode cX8_readsPerson 15 = .ok (.ireturn, 1) := by decide +kernel
theorem dX8_readsPerson_16 : decode cX8_readsPerson 16 = .ok (.aload_n 0, 1) := by decide +kernel
theorem dX8_readsPerson_17 : decode cX8_readsPerson 17 = .ok (.invokevirtual 59, 3) := by decide +kernel
theorem dX8_readsPerson_20 : decode cX8_readsPerson 20 = .ok (.aload_n 0, 1) := by decide +kernel
theorem dX8_readsPerson_21 : decode cX8_readsPerson 21 = .ok (.aload_n 1, 1) := by decide +kernel
theorem dX8_readsPerson_22 : decode cX8_readsPerson 22 = .ok (.invokestatic 62, 3) := by decide +kernel
theorem dX8_readsPerson_25 : decode cX8_readsPerson 25 = .ok (.ifCond .ne 5, 3) := by decide +kernel
theorem dX8_readsPerson_28 : decode cX8_readsPerson 28 = .ok (.iconst 0, 1) := by decide +kernel
theorem dX8_readsPerson_29 : decode cX8_readsPerson 29 = .ok (.ireturn, 1) := by decide +kernel
theorem dX8_readsPerson_30 : decode cX8_readsPerson 30 = .ok (.aload_n 1, 1) := by decide +kernel
theorem dX8_readsPerson_31 : decode cX8_readsPerson 31 = .ok (.getfield 107, 3) := by decide +kernel
theorem dX8_readsPerson_34 : decode cX8_readsPerson 34 = .ok (.iload_n 2, 1) := by decide +kernel
theorem dX8_readsPerson_35 : decode cX8_readsPerson 35 = .ok (.aload_n 0, 1) := by decide +kernel
theorem dX8_readsPerson_36 : decode cX8_readsPerson 36 = .ok (.getfield 69, 3) := by decide +kernel
theorem dX8_readsPerson_39 : decode cX8_readsPerson 39 = .ok (.lastore, 1) := by decide +kernel
theorem dX8_readsPerson_40 : decode cX8_readsPerson 40 = .ok (.aload_n 0, 1) := by decide +kernel
theorem dX8_readsPerson_41 : decode cX8_readsPerson 41 = .ok (.invokevirtual 59, 3) := by decide +kernel
theorem dX8_readsPerson_44 : decode cX8_readsPerson 44 = .ok (.aload_n 0, 1) := by decide +kernel
theorem dX8_readsPerson_45 : decode cX8_readsPerson 45 = .ok (.bipush 13, 2) := by decide +kernel
theorem dX8_readsPerson_47 : decode cX8_readsPerson 47 = .ok (.invokevirtual 77, 3) := by decide +kernel
theorem dX8_readsPerson_50 : decode cX8_readsPerson 50 = .ok (.ifCond .eq 13, 3) := by decide +kernel
theorem dX8_readsPerson_53 : decode cX8_readsPerson 53 = .ok (.aload_n 0, 1) := by decide +kernel
theorem dX8_readsPerson_54 : decode cX8_readsPerson 54 = .ok (.iconst 0, 1) := by decide +kernel
theorem dX8_readsPerson_55 : decode cX8_readsPerson 55 = .ok (.bipush 9, 2) := by decide +kernel
theorem dX8_readsPerson_57 : decode cX8_readsPerson 57 = .ok (.invokevirtual 80, 3) := by decide +kernel
theorem dX8_readsPerson_60 : decode cX8_readsPerson 60 = .ok (.ifCond .ne 5, 3) := by decide +kernel
theorem dX8_readsPerson_63 : decode cX8_readsPerson 63 = .ok (.iconst 0, 1) := by decide +kernel
theorem dX8_readsPerson_64 : decode cX8_readsPerson 64 = .ok (.ireturn, 1) := by decide +kernel
theorem dX8_readsPerson_65 : decode cX8_readsPerson 65 = .ok (.aload_n 1, 1) := by decide +kernel
theorem dX8_readsPerson_66 : decode cX8_readsPerson 66 = .ok (.getfield 110, 3) := by decide +kernel
theorem dX8_readsPerson_69 : decode cX8_readsPerson 69 = .ok (.iload_n 2, 1) := by decide +kernel
theorem dX8_readsPerson_70 : decode cX8_readsPerson 70 = .ok (.aload_n 0, 1) := by decide +kernel
theorem dX8_readsPerson_71 : decode cX8_readsPerson 71 = .ok (.getfield 87, 3) := by decide +kernel
theorem dX8_readsPerson_74 : decode cX8_readsPerson 74 = .ok (.iastore, 1) := by decide +kernel
theorem dX8_readsPerson_75 : decode cX8_readsPerson 75 = .ok (.aload_n 0, 1) := by decide +kernel
theorem dX8_readsPerson_76 : decode cX8_readsPerson 76 = .ok (.invokevirtual 59, 3) := by decide +kernel
theorem dX8_readsPerson_79 : decode cX8_readsPerson 79 = .ok (.aload_n 1, 1) := by decide +kernel
theorem dX8_readsPerson_80 : decode cX8_readsPerson 80 = .ok (.dup, 1) := by decide +kernel
theorem dX8_readsPerson_81 : decode cX8_readsPerson 81 = .ok (.getfield 104, 3) := by decide +kernel
theorem dX8_readsPerson_84 : decode cX8_readsPerson 84 = .ok (.iconst 1, 1) := by decide +kernel
theorem dX8_readsPerson_85 : decode cX8_readsPerson 85 = .ok (.iadd, 1) := by decide +kernel
theorem dX8_readsPerson_86 : decode cX8_readsPerson 86 = .ok (.putfield 104, 3) := by decide +kernel
theorem dX8_readsPerson_89 : decode cX8_readsPerson 89 = .ok (.iconst 1, 1) := by decide +kernel
theorem dX8_readsPerson_90 : decode cX8_readsPerson 90 = .ok (.ireturn, 1) := by decide +kernel
theorem dX8_readsDeed_0 : decode cX8_readsDeed 0 = .ok (.aload_n 1, 1) := by decide +kernel
theorem dX8_readsDeed_1 : decode cX8_readsDeed 1 = .ok (.getfield 113, 3) := by decide +kernel
theorem dX8_readsDeed_4 : decode cX8_readsDeed 4 = .ok (.istore_n 2, 1) := by decide +kernel
theorem dX8_readsDeed_5 : decode cX8_readsDeed 5 = .ok (.iload_n 2, 1) := by decide +kernel
theorem dX8_readsDeed_6 : decode cX8_readsDeed 6 = .ok (.iconst 5, 1) := by decide +kernel
theorem dX8_readsDeed_7 : decode cX8_readsDeed 7 = .ok (.if_icmp .lt 9, 3) := by decide +kernel
theorem dX8_readsDeed_10 : decode cX8_readsDeed 10 = .ok (.aload_n 0, 1) := by decide +kernel
theorem dX8_readsDeed_11 : decode cX8_readsDeed 11 = .ok (.iconst 5, 1) := by decide +kernel
theorem dX8_readsDeed_12 : decode cX8_readsDeed 12 = .ok (.invokevirtual 52, 3) := by decide +kernel
theorem dX8_readsDeed_15 : decode cX8_readsDeed 15 = .ok (.ireturn, 1) := by decide +kernel
theorem dX8_readsDeed_16 : decode cX8_readsDeed 16 = .ok (.aload_n 0, 1) := by decide +kernel
theorem dX8_readsDeed_17 : decode cX8_readsDeed 17 = .ok (.invokevirtual 59, 3) := by decide +kernel
theorem dX8_readsDeed_20 : decode cX8_readsDeed 20 = .ok (.aload_n 0, 1) := by decide +kernel
theorem dX8_readsDeed_21 : decode cX8_readsDeed 21 = .ok (.aload_n 1, 1) := by decide +kernel
theorem dX8_readsDeed_22 : decode cX8_readsDeed 22 = .ok (.invokestatic 62, 3) := by decide +kernel
theorem dX8_readsDeed_25 : decode cX8_readsDeed 25 = .ok (.ifCond .ne 5, 3) := by decide +kernel
theorem dX8_readsDeed_28 : decode cX8_readsDeed 28 = .ok (.iconst 0, 1) := by decide +kernel
theorem dX8_readsDeed_29 : decode cX8_readsDeed 29 = .ok (.ireturn, 1) := by decide +kernel
theorem dX8_readsDeed_30 : decode cX8_readsDeed 30 = .ok (.aload_n 1, 1) := by decide +kernel
theorem dX8_readsDeed_31 : decode cX8_readsDeed 31 = .ok (.getfield 116, 3) := by decide +kernel
theorem dX8_readsDeed_34 : decode cX8_readsDeed 34 = .ok (.iload_n 2, 1) := by decide +kernel
theorem dX8_readsDeed_35 : decode cX8_readsDeed 35 = .ok (.aload_n 0, 1) := by decide +kernel
theorem dX8_readsDeed_36 : decode cX8_readsDeed 36 = .ok (.getfield 69, 3) := by decide +kernel
theorem dX8_readsDeed_39 : decode cX8_readsDeed 39 = .ok (.lastore, 1) := by decide +kernel
theorem dX8_readsDeed_40 : decode cX8_readsDeed 40 = .ok (.aload_n 0, 1) := by decide +kernel
theorem dX8_readsDeed_41 : decode cX8_readsDeed 41 = .ok (.invokevirtual 59, 3) := by decide +kernel
theorem dX8_readsDeed_44 : decode cX8_readsDeed 44 = .ok (.aload_n 0, 1) := by decide +kernel
theorem dX8_readsDeed_45 : decode cX8_readsDeed 45 = .ok (.bipush 14, 2) := by decide +kernel
theorem dX8_readsDeed_47 : decode cX8_readsDeed 47 = .ok (.invokevirtual 77, 3) := by decide +kernel
theorem dX8_readsDeed_50 : decode cX8_readsDeed 50 = .ok (.ifCond .eq 13, 3) := by decide +kernel
theorem dX8_readsDeed_53 : decode cX8_readsDeed 53 = .ok (.aload_n 0, 1) := by decide +kernel
theorem dX8_readsDeed_54 : decode cX8_readsDeed 54 = .ok (.iconst 0, 1) := by decide +kernel
theorem dX8_readsDeed_55 : decode cX8_readsDeed 55 = .ok (.bipush 99, 2) := by decide +kernel
theorem dX8_readsDeed_57 : decode cX8_readsDeed 57 = .ok (.invokevirtual 80, 3) := by decide +kernel
theorem dX8_readsDeed_60 : decode cX8_readsDeed 60 = .ok (.ifCond .ne 5, 3) := by decide +kernel
theorem dX8_readsDeed_63 : decode cX8_readsDeed 63 = .ok (.iconst 0, 1) := by decide +kernel
theorem dX8_readsDeed_64 : decode cX8_readsDeed 64 = .ok (.ireturn, 1) := by decide +kernel
theorem dX8_readsDeed_65 : decode cX8_readsDeed 65 = .ok (.aload_n 1, 1) := by decide +kernel
theorem dX8_readsDeed_66 : decode cX8_readsDeed 66 = .ok (.getfield 119, 3) := by decide +kernel
theorem dX8_readsDeed_69 : decode cX8_readsDeed 69 = .ok (.iload_n 2, 1) := by decide +kernel
theorem dX8_readsDeed_70 : decode cX8_readsDeed 70 = .ok (.aload_n 0, 1) := by decide +kernel
theorem dX8_readsDeed_71 : decode cX8_readsDeed 71 = .ok (.getfield 87, 3) := by decide +kernel
theorem dX8_readsDeed_74 : decode cX8_readsDeed 74 = .ok (.iastore, 1) := by decide +kernel
theorem dX8_readsDeed_75 : decode cX8_readsDeed 75 = .ok (.aload_n 0, 1) := by decide +kernel
theorem dX8_readsDeed_76 : decode cX8_readsDeed 76 = .ok (.invokevirtual 59, 3) := by decide +kernel
theorem dX8_readsDeed_79 : decode cX8_readsDeed 79 = .ok (.aload_n 1, 1) := by decide +kernel
theorem dX8_readsDeed_80 : decode cX8_readsDeed 80 = .ok (.dup, 1) := by decide +kernel
theorem dX8_readsDeed_81 : decode cX8_readsDeed 81 = .ok (.getfield 113, 3) := by decide +kernel
theorem dX8_readsDeed_84 : decode cX8_readsDeed 84 = .ok (.iconst 1, 1) := by decide +kernel
theorem dX8_readsDeed_85 : decode cX8_readsDeed 85 = .ok (.iadd, 1) := by decide +kernel
theorem dX8_readsDeed_86 : decode cX8_readsDeed 86 = .ok (.putfield 113, 3) := by decide +kernel
theorem dX8_readsDeed_89 : decode cX8_readsDeed 89 = .ok (.iconst 1, 1) := by decide +kernel
theorem dX8_readsDeed_90 : decode cX8_readsDeed 90 = .ok (.ireturn, 1) := by decide +kernel
theorem dX8_readsLight_0 : decode cX8_readsLight 0 = .ok (.aload_n 1, 1) := by decide +kernel
theorem dX8_readsLight_1 : decode cX8_readsLight 1 = .ok (.getfield 122, 3) := by decide +kernel
theorem dX8_readsLight_4 : decode cX8_readsLight 4 = .ok (.ifCond .le 9, 3) := by decide +kernel
theorem dX8_readsLight_7 : decode cX8_readsLight 7 = .ok (.aload_n 0, 1) := by decide +kernel
theorem dX8_readsLight_8 : decode cX8_readsLight 8 = .ok (.iconst 3, 1) := by decide +kernel
theorem dX8_readsLight_9 : decode cX8_readsLight 9 = .ok (.invokevirtual 52, 3) := by decide +kernel
theorem dX8_readsLight_12 : decode cX8_readsLight 12 = .ok (.ireturn, 1) := by decide +kernel
theorem dX8_readsLight_13 : decode cX8_readsLight 13 = .ok (.aload_n 0, 1) := by decide +kernel
theorem dX8_readsLight_14 : decode cX8_readsLight 14 = .ok (.invokevirtual 59, 3) := by decide +kernel
theorem dX8_readsLight_17 : decode cX8_readsLight 17 = .ok (.iconst 0, 1) := by decide +kernel
theorem dX8_readsLight_18 : decode cX8_readsLight 18 = .ok (.istore_n 2, 1) := by decide +kernel
theorem dX8_readsLight_19 : decode cX8_readsLight 19 = .ok (.iload_n 2, 1) := by decide +kernel
theorem dX8_readsLight_20 : decode cX8_readsLight 20 = .ok (.bipush 12, 2) := by decide +kernel
theorem dX8_readsLight_22 : decode cX8_readsLight 22 = .ok (.if_icmp .gt 67, 3) := by decide +kernel
theorem dX8_readsLight_25 : decode cX8_readsLight 25 = .ok (.iload_n 2, 1) := by decide +kernel
theorem dX8_readsLight_26 : decode cX8_readsLight 26 = .ok (.ifCond .eq 10, 3) := by decide +kernel
theorem dX8_readsLight_29 : decode cX8_readsLight 29 = .ok (.aload_n 0, 1) := by decide +kernel
theorem dX8_readsLight_30 : decode cX8_readsLight 30 = .ok (.invokevirtual 94, 3) := by decide +kernel
theorem dX8_readsLight_33 : decode cX8_readsLight 33 = .ok (.ifCond .eq 56, 3) := by decide +kernel
theorem dX8_readsLight_36 : decode cX8_readsLight 36 = .ok (.aload_n 0, 1) := by decide +kernel
theorem dX8_readsLight_37 : decode cX8_readsLight 37 = .ok (.iconst 0, 1) := by decide +kernel
theorem dX8_readsLight_38 : decode cX8_readsLight 38 = .ok (.iconst 1, 1) := by decide +kernel
theorem dX8_readsLight_39 : decode cX8_readsLight 39 = .ok (.invokevirtual 80, 3) := by decide +kernel
theorem dX8_readsLight_42 : decode cX8_readsLight 42 = .ok (.ifCond .ne 5, 3) := by decide +kernel
theorem dX8_readsLight_45 : decode cX8_readsLight 45 = .ok (.iconst 0, 1) := by decide +kernel
theorem dX8_readsLight_46 : decode cX8_readsLight 46 = .ok (.ireturn, 1) := by decide +kernel
theorem dX8_readsLight_47 : decode cX8_readsLight 47 = .ok (.iload_n 2, 1) := by decide +kernel
theorem dX8_readsLight_48 : decode cX8_readsLight 48 = .ok (.bipush 12, 2) := by decide +kernel
theorem dX8_readsLight_50 : decode cX8_readsLight 50 = .ok (.if_icmp .lt 9, 3) := by decide +kernel
theorem dX8_readsLight_53 : decode cX8_readsLight 53 = .ok (.aload_n 0, 1) := by decide +kernel
theorem dX8_readsLight_54 : decode cX8_readsLight 54 = .ok (.iconst 5, 1) := by decide +kernel
theorem dX8_readsLight_55 : decode cX8_readsLight 55 = .ok (.invokevirtual 52, 3) := by decide +kernel
theorem dX8_readsLight_58 : decode cX8_readsLight 58 = .ok (.ireturn, 1) := by decide +kernel
theorem dX8_readsLight_59 : decode cX8_readsLight 59 = .ok (.aload_n 1, 1) := by decide +kernel
theorem dX8_readsLight_60 : decode cX8_readsLight 60 = .ok (.getfield 125, 3) := by decide +kernel
theorem dX8_readsLight_63 : decode cX8_readsLight 63 = .ok (.iload_n 2, 1) := by decide +kernel
theorem dX8_readsLight_64 : decode cX8_readsLight 64 = .ok (.aload_n 0, 1) := by decide +kernel
theorem dX8_readsLight_65 : decode cX8_readsLight 65 = .ok (.getfield 87, 3) := by decide +kernel
theorem dX8_readsLight_68 : decode cX8_readsLight 68 = .ok (.iastore, 1) := by decide +kernel
theorem dX8_readsLight_69 : decode cX8_readsLight 69 = .ok (.aload_n 1, 1) := by decide +kernel
theorem dX8_readsLight_70 : decode cX8_readsLight 70 = .ok (.dup, 1) := by decide +kernel
theorem dX8_readsLight_71 : decode cX8_readsLight 71 = .ok (.getfield 122, 3) := by decide +kernel
theorem dX8_readsLight_74 : decode cX8_readsLight 74 = .ok (.iconst 1, 1) := by decide +kernel
theorem dX8_readsLight_75 : decode cX8_readsLight 75 = .ok (.iadd, 1) := by decide +kernel
theorem dX8_readsLight_76 : decode cX8_readsLight 76 = .ok (.putfield 122, 3) := by decide +kernel
theorem dX8_readsLight_79 : decode cX8_readsLight 79 = .ok (.aload_n 0, 1) := by decide +kernel
theorem dX8_readsLight_80 : decode cX8_readsLight 80 = .ok (.invokevirtual 59, 3) := by decide +kernel
theorem dX8_readsLight_83 : decode cX8_readsLight 83 = .ok (.iinc 2 1, 3) := by decide +kernel
theorem dX8_readsLight_86 : decode cX8_readsLight 86 = .ok (.goto (-67), 3) := by decide +kernel
theorem dX8_readsLight_89 : decode cX8_readsLight 89 = .ok (.iconst 1, 1) := by decide +kernel
theorem dX8_readsLight_90 : decode cX8_readsLight 90 = .ok (.ireturn, 1) := by decide +kernel
theorem dX8_readsFades_0 : decode cX8_readsFades 0 = .ok (.aload_n 1, 1) := by decide +kernel
theorem dX8_readsFades_1 : decode cX8_readsFades 1 = .ok (.getfield 128, 3) := by decide +kernel
theorem dX8_readsFades_4 : decode cX8_readsFades 4 = .ok (.getfield 132, 3) := by decide +kernel
theorem dX8_readsFades_7 : decode cX8_readsFades 7 = .ok (.ifCond .le 9, 3) := by decide +kernel
theorem dX8_readsFades_10 : decode cX8_readsFades 10 = .ok (.aload_n 0, 1) := by decide +kernel
theorem dX8_readsFades_11 : decode cX8_readsFades 11 = .ok (.iconst 3, 1) := by decide +kernel
theorem dX8_readsFades_12 : decode cX8_readsFades 12 = .ok (.invokevirtual 52, 3) := by decide +kernel
theorem dX8_readsFades_15 : decode cX8_readsFades 15 = .ok (.ireturn, 1) := by decide +kernel
theorem dX8_readsFades_16 : decode cX8_readsFades 16 = .ok (.aload_n 0, 1) := by decide +kernel
theorem dX8_readsFades_17 : decode cX8_readsFades 17 = .ok (.invokevirtual 59, 3) := by decide +kernel
theorem dX8_readsFades_20 : decode cX8_readsFades 20 = .ok (.aload_n 1, 1) := by decide +kernel
theorem dX8_readsFades_21 : decode cX8_readsFades 21 = .ok (.getfield 128, 3) := by decide +kernel
theorem dX8_readsFades_24 : decode cX8_readsFades 24 = .ok (.aload_n 0, 1) := by decide +kernel
theorem dX8_readsFades_25 : decode cX8_readsFades 25 = .ok (.iconst 0, 1) := by decide +kernel
theorem dX8_readsFades_26 : decode cX8_readsFades 26 = .ok (.iconst 0, 1) := by decide +kernel
theorem dX8_readsFades_27 : decode cX8_readsFades 27 = .ok (.invokevirtual 137, 3) := by decide +kernel
theorem dX8_readsFades_30 : decode cX8_readsFades 30 = .ok (.ireturn, 1) := by decide +kernel
theorem dX8_hasNewName_0 : decode cX8_hasNewName 0 = .ok (.aload_n 0, 1) := by decide +kernel
theorem dX8_hasNewName_1 : decode cX8_hasNewName 1 = .ok (.invokevirtual 141, 3) := by decide +kernel
theorem dX8_hasNewName_4 : decode cX8_hasNewName 4 = .ok (.ifCond .ne 9, 3) := by decide +kernel
theorem dX8_hasNewName_7 : decode cX8_hasNewName 7 = .ok (.aload_n 0, 1) := by decide +kernel
theorem dX8_hasNewName_8 : decode cX8_hasNewName 8 = .ok (.iconst 1, 1) := by decide +kernel
theorem dX8_hasNewName_9 : decode cX8_hasNewName 9 = .ok (.invokevirtual 52, 3) := by decide +kernel
theorem dX8_hasNewName_12 : decode cX8_hasNewName 12 = .ok (.ireturn, 1) := by decide +kernel
theorem dX8_hasNewName_13 : decode cX8_hasNewName 13 = .ok (.aload_n 1, 1) := by decide +kernel
theorem dX8_hasNewName_14 : decode cX8_hasNewName 14 = .ok (.aload_n 0, 1) := by decide +kernel
theorem dX8_hasNewName_15 : decode cX8_hasNewName 15 = .ok (.getfield 69, 3) := by decide +kernel
theorem dX8_hasNewName_18 : decode cX8_hasNewName 18 = .ok (.invokevirtual 144, 3) := by decide +kernel
theorem dX8_hasNewName_21 : decode cX8_hasNewName 21 = .ok (.ifCond .eq 11, 3) := by decide +kernel
theorem dX8_hasNewName_24 : decode cX8_hasNewName 24 = .ok (.aload_n 0, 1) := by decide +kernel
theorem dX8_hasNewName_25 : decode cX8_hasNewName 25 = .ok (.iconst 3, 1) := by decide +kernel
theorem dX8_hasNewName_26 : decode cX8_hasNewName 26 = .ok (.invokevirtual 52, 3) := by decide +kernel
theorem dX8_hasNewName_29 : decode cX8_hasNewName 29 = .ok (.ifCond .eq 7, 3) := by decide +kernel
theorem dX8_hasNewName_32 : decode cX8_hasNewName 32 = .ok (.iconst 1, 1) := by decide +kernel
theorem dX8_hasNewName_33 : decode cX8_hasNewName 33 = .ok (.goto 4, 3) := by decide +kernel
theorem dX8_hasNewName_36 : decode cX8_hasNewName 36 = .ok (.iconst 0, 1) := by decide +kernel
theorem dX8_hasNewName_37 : decode cX8_hasNewName 37 = .ok (.ireturn, 1) := by decide +kernel
theorem dX9_init_0 : decode cX9_init 0 = .ok (.aload_n 0, 1) := by decide +kernel
theorem dX9_init_1 : decode cX9_init 1 = .ok (.invokespecial 3, 3) := by decide +kernel
theorem dX9_init_4 : decode cX9_init 4 = .ok (.aload_n 0, 1) := by decide +kernel
theorem dX9_init_5 : decode cX9_init 5 = .ok (.sipush 1000, 3) := by decide +kernel
theorem dX9_init_8 : decode cX9_init 8 = .ok (.newarray .char, 2) := by decide +kernel
theorem dX9_init_10 : decode cX9_init 10 = .ok (.putfield 11, 3) := by decide +kernel
theorem dX9_init_13 : decode cX9_init 13 = .ok (.aload_n 0, 1) := by decide +kernel
theorem dX9_init_14 : decode cX9_init 14 = .ok (.iconst 0, 1) := by decide +kernel
theorem dX9_init_15 : decode cX9_init 15 = .ok (.putfield 15, 3) := by decide +kernel
theorem dX9_init_18 : decode cX9_init 18 = .ok (.aload_n 0, 1) := by decide +kernel
theorem dX9_init_19 : decode cX9_init 19 = .ok (.iconst 0, 1) := by decide +kernel
theorem dX9_init_20 : decode cX9_init 20 = .ok (.putfield 19, 3) := by decide +kernel
theorem dX9_init_23 : decode cX9_init 23 = .ok (.aload_n 0, 1) := by decide +kernel
theorem dX9_init_24 : decode cX9_init 24 = .ok (.iconst 0, 1) := by decide +kernel
theorem dX9_init_25 : decode cX9_init 25 = .ok (.putfield 22, 3) := by decide +kernel
theorem dX9_init_28 : decode cX9_init 28 = .ok (.aload_n 0, 1) := by decide +kernel
theorem dX9_init_29 : decode cX9_init 29 = .ok (.iconst 0, 1) := by decide +kernel
theorem dX9_init_30 : decode cX9_init 30 = .ok (.putfield 25, 3) := by decide +kernel
theorem dX9_init_33 : decode cX9_init 33 = .ok (.aload_n 0, 1) := by decide +kernel
theorem dX9_init_34 : decode cX9_init 34 = .ok (.iconst 0, 1) := by decide +kernel
theorem dX9_init_35 : decode cX9_init 35 = .ok (.putfield 28, 3) := by decide +kernel
theorem dX9_init_38 : decode cX9_init 38 = .ok (.aload_n 0, 1) := by decide +kernel
theorem dX9_init_39 : decode cX9_init 39 = .ok (.lconst 0, 1) := by decide +kernel
theorem dX9_init_40 : decode cX9_init 40 = .ok (.putfield 31, 3) := by decide +kernel
theorem dX9_init_43 : decode cX9_init 43 = .ok (.aload_n 0, 1) := by decide +kernel
theorem dX9_init_44 : decode cX9_init 44 = .ok (.iconst (-1), 1) := by decide +kernel
theorem dX9_init_45 : decode cX9_init 45 = .ok (.putfield 35, 3) := by decide +kernel
theorem dX9_init_48 : decode cX9_init 48 = .ok (.aload_n 0, 1) := by decide +kernel
theorem dX9_init_49 : decode cX9_init 49 = .ok (.iconst 0, 1) := by decide +kernel
theorem dX9_init_50 : decode cX9_init 50 = .ok (.putfield 38, 3) := by decide +kernel
theorem dX9_init_53 : decode cX9_init 53 = .ok (.return_, 1) := by decide +kernel
theorem dX9_append_0 : decode cX9_append 0 = .ok (.bipush 56, 2) := by decide +kernel
theorem dX9_append_2 : decode cX9_append 2 = .ok (.istore_n 3, 1) := by decide +kernel
theorem dX9_append_3 : decode cX9_append 3 = .ok (.iload_n 3, 1) := by decide +kernel
theorem dX9_append_4 : decode cX9_append 4 = .ok (.ifCond .lt 72, 3) := by decide +kernel
theorem dX9_append_7 : decode cX9_append 7 = .ok (.lload_n 1, 1) := by decide +kernel
theorem dX9_append_8 : decode cX9_append 8 = .ok (.iload_n 3, 1) := by decide +kernel
theorem dX9_append_9 : decode cX9_append 9 = .ok (.lushr, 1) := by decide +kernel
theorem dX9_append_10 : decode cX9_append 10 = .ok (.l2i, 1) := by decide +kernel
theorem dX9_append_11 : decode cX9_append 11 = .ok (.sipush 255, 3) := by decide +kernel
theorem dX9_append_14 : decode cX9_append 14 = .ok (.iand, 1) := by decide +kernel
theorem dX9_append_15 : decode cX9_append 15 = .ok (.istore 4, 2) := by decide +kernel
theorem dX9_append_17 : decode cX9_append 17 = .ok (.aload_n 0, 1) := by decide +kernel
theorem dX9_append_18 : decode cX9_append 18 = .ok (.getfield 15, 3) := by decide +kernel
theorem dX9_append_21 : decode cX9_append 21 = .ok (.sipush 1000, 3) := by decide +kernel
theorem dX9_append_24 : decode cX9_append 24 = .ok (.if_icmp .ge 46, 3) := by decide +kernel
theorem dX9_append_27 : decode cX9_append 27 = .ok (.iload 4, 2) := by decide +kernel
theorem dX9_append_29 : decode cX9_append 29 = .ok (.bipush 10, 2) := by decide +kernel
theorem dX9_append_31 : decode cX9_append 31 = .ok (.if_icmp .eq 17, 3) := by decide +kernel
theorem dX9_append_34 : decode cX9_append 34 = .ok (.iload 4, 2) := by decide +kernel
theorem dX9_append_36 : decode cX9_append 36 = .ok (.bipush 32, 2) := by decide +kernel
theorem dX9_append_38 : decode cX9_append 38 = .ok (.if_icmp .lt 32, 3) := by decide +kernel
theorem dX9_append_41 : decode cX9_append 41 = .ok (.iload 4, 2) := by decide +kernel
theorem dX9_append_43 : decode cX9_append 43 = .ok (.bipush 126, 2) := by decide +kernel
theorem dX9_append_45 : decode cX9_append 45 = .ok (.if_icmp .gt 25, 3) := by decide +kernel
theorem dX9_append_48 : decode cX9_append 48 = .ok (.aload_n 0, 1) := by decide +kernel
theorem dX9_append_49 : decode cX9_append 49 = .ok (.getfield 11, 3) := by decide +kernel
theorem dX9_append_52 : decode cX9_append 52 = .ok (.aload_n 0, 1) := by decide +kernel
theorem dX9_append_53 : decode cX9_append 53 = .ok (.getfield 15, 3) := by decide +kernel
theorem dX9_append_56 : decode cX9_append 56 = .ok (.iload 4, 2) := by decide +kernel
theorem dX9_append_58 : decode cX9_append 58 = .ok (.i2c, 1) := by decide +kernel
theorem dX9_append_59 : decode cX9_append 59 = .ok (.castore, 1) := by decide +kernel
theorem dX9_append_60 : decode cX9_append 60 = .ok (.aload_n 0, 1) := by decide +kernel
theorem dX9_append_61 : decode cX9_append 61 = .ok (.dup, 1) := by decide +kernel
theorem dX9_append_62 : decode cX9_append 62 = .ok (.getfield 15, 3) := by decide +kernel
theorem dX9_append_65 : decode cX9_append 65 = .ok (.iconst 1, 1) := by decide +kernel
theorem dX9_append_66 : decode cX9_append 66 = .ok (.iadd, 1) := by decide +kernel
theorem dX9_append_67 : decode cX9_append 67 = .ok (.putfield 15, 3) := by decide +kernel
theorem dX9_append_70 : decode cX9_append 70 = .ok (.iinc 3 (-8), 3) := by decide +kernel
theorem dX9_append_73 : decode cX9_append 73 = .ok (.goto (-70), 3) := by decide +kernel
theorem dX9_append_76 : decode cX9_append 76 = .ok (.return_, 1) := by decide +kernel
theorem dX9_clear_0 : decode cX9_clear 0 = .ok (.aload_n 0, 1) := by decide +kernel
theorem dX9_clear_1 : decode cX9_clear 1 = .ok (.iconst 0, 1) := by decide +kernel
theorem dX9_clear_2 : decode cX9_clear 2 = .ok (.putfield 15, 3) := by decide +kernel
theorem dX9_clear_5 : decode cX9_clear 5 = .ok (.return_, 1) := by decide +kernel
theorem dX9_rewind_0 : decode cX9_rewind 0 = .ok (.aload_n 0, 1) := by decide +kernel
theorem dX9_rewind_1 : decode cX9_rewind 1 = .ok (.iconst 0, 1) := by decide +kernel
theorem dX9_rewind_2 : decode cX9_rewind 2 = .ok (.putfield 25, 3) := by decide +kernel
theorem dX9_rewind_5 : decode cX9_rewind 5 = .ok (.aload_n 0, 1) := by decide +kernel
theorem dX9_rewind_6 : decode cX9_rewind 6 = .ok (.iconst 0, 1) := by decide +kernel
theorem dX9_rewind_7 : decode cX9_rewind 7 = .ok (.putfield 38, 3) := by decide +kernel
theorem dX9_rewind_10 : decode cX9_rewind 10 = .ok (.aload_n 0, 1) := by decide +kernel
theorem dX9_rewind_11 : decode cX9_rewind 11 = .ok (.invokevirtual 41, 3) := by decide +kernel
theorem dX9_rewind_14 : decode cX9_rewind 14 = .ok (.return_, 1) := by decide +kernel
theorem dX9_advance_0 : decode cX9_advance 0 = .ok (.aload_n 0, 1) := by decide +kernel
theorem dX9_advance_1 : decode cX9_advance 1 = .ok (.getfield 25, 3) := by decide +kernel
theorem dX9_advance_4 : decode cX9_advance 4 = .ok (.istore_n 1, 1) := by decide +kernel
theorem dX9_advance_5 : decode cX9_advance 5 = .ok (.iload_n 1, 1) := by decide +kernel
theorem dX9_advance_6 : decode cX9_advance 6 = .ok (.aload_n 0, 1) := by decide +kernel
theorem dX9_advance_7 : decode cX9_advance 7 = .ok (.getfield 15, 3) := by decide +kernel
theorem dX9_advance_10 : decode cX9_advance 10 = .ok (.if_icmp .ge 31, 3) := by decide +kernel
theorem dX9_advance_13 : decode cX9_advance 13 = .ok (.aload_n 0, 1) := by decide +kernel
theorem dX9_advance_14 : decode cX9_advance 14 = .ok (.getfield 11, 3) := by decide +kernel
theorem dX9_advance_17 : decode cX9_advance 17 = .ok (.iload_n 1, 1) := by decide +kernel
theorem dX9_advance_18 : decode cX9_advance 18 = .ok (.caload, 1) := by decide +kernel
theorem dX9_advance_19 : decode cX9_advance 19 = .ok (.bipush 32, 2) := by decide +kernel
theorem dX9_advance_21 : decode cX9_advance 21 = .ok (.if_icmp .eq 14, 3) := by decide +kernel
theorem dX9_advance_24 : decode cX9_advance 24 = .ok (.aload_n 0, 1) := by decide +kernel
theorem dX9_advance_25 : decode cX9_advance 25 = .ok (.getfield 11, 3) := by decide +kernel
theorem dX9_advance_28 : decode cX9_advance 28 = .ok (.iload_n 1, 1) := by decide +kernel
theorem dX9_advance_29 : decode cX9_advance 29 = .ok (.caload, 1) := by decide +kernel
theorem dX9_advance_30 : decode cX9_advance 30 = .ok (.bipush 10, 2) := by decide +kernel
theorem dX9_advance_32 : decode cX9_advance 32 = .ok (.if_icmp .ne 9, 3) := by decide +kernel
theorem dX9_advance_35 : decode cX9_advance 35 = .ok (.iinc 1 1, 3) := by decide +kernel
theorem dX9_advance_38 : decode cX9_advance 38 = .ok (.goto (-33), 3) := by decide +kernel
theorem dX9_advance_41 : decode cX9_advance 41 = .ok (.aload_n 0, 1) := by decide +kernel
theorem dX9_advance_42 : decode cX9_advance 42 = .ok (.iload_n 1, 1) := by decide +kernel
theorem dX9_advance_43 : decode cX9_advance 43 = .ok (.putfield 22, 3) := by decide +kernel
theorem dX9_advance_46 : decode cX9_advance 46 = .ok (.aload_n 0, 1) := by decide +kernel
theorem dX9_advance_47 : decode cX9_advance 47 = .ok (.iconst (-1), 1) := by decide +kernel
theorem dX9_advance_48 : decode cX9_advance 48 = .ok (.putfield 35, 3) := by decide +kernel
theorem dX9_advance_51 : decode cX9_advance 51 = .ok (.iload_n 1, 1) := by decide +kernel
theorem dX9_advance_52 : decode cX9_advance 52 = .ok (.aload_n 0, 1) := by decide +kernel
theorem dX9_advance_53 : decode cX9_advance 53 = .ok (.getfield 15, 3) := by decide +kernel
theorem dX9_advance_56 : decode cX9_advance 56 = .ok (.if_icmp .lt 17, 3) := by decide +kernel
theorem dX9_advance_59 : decode cX9_advance 59 = .ok (.aload_n 0, 1) := by decide +kernel
theorem dX9_advance_60 : decode cX9_advance 60 = .ok (.iconst 0, 1) := by decide +kernel
theorem dX9_advance_61 : decode cX9_advance 61 = .ok (.putfield 19, 3) := by decide +kernel
theorem dX9_advance_64 : decode cX9_advance 64 = .ok (.aload_n 0, 1) := by decide +kernel
theorem dX9_advance_65 : decode cX9_advance 65 = .ok (.aload_n 0, 1) := by decide +kernel
theorem dX9_advance_66 : decode cX9_advance 66 = .ok (.getfield 15, 3) := by decide +kernel
theorem dX9_advance_69 : decode cX9_advance 69 = .ok (.putfield 25, 3) := by decide +kernel
theorem dX9_advance_72 : decode cX9_advance 72 = .ok (.return_, 1) := by decide +kernel
theorem dX9_advance_73 : decode cX9_advance 73 = .ok (.aload_n 0, 1) := by decide +kernel
theorem dX9_advance_74 : decode cX9_advance 74 = .ok (.getfield 11, 3) := by decide +kernel
theorem dX9_advance_77 : decode cX9_advance 77 = .ok (.iload_n 1, 1) := by decide +kernel
theorem dX9_advance_78 : decode cX9_advance 78 = .ok (.caload, 1) := by decide +kernel
theorem dX9_advance_79 : decode cX9_advance 79 = .ok (.istore_n 2, 1) := by decide +kernel
theorem dX9_advance_80 : decode cX9_advance 80 = .ok (.iload_n 2, 1) := by decide +kernel
theorem dX9_advance_81 : decode cX9_advance 81 = .ok (.bipush 97, 2) := by decide +kernel
theorem dX9_advance_83 : decode cX9_advance 83 = .ok (.if_icmp .lt 26, 3) := by decide +kernel
theorem dX9_advance_86 : decode cX9_advance 86 = .ok (.iload_n 2, 1) := by decide +kernel
theorem dX9_advance_87 : decode cX9_advance 87 = .ok (.bipush 122, 2) := by decide +kernel
theorem dX9_advance_89 : decode cX9_advance 89 = .ok (.if_icmp .gt 20, 3) := by decide +kernel
theorem dX9_advance_92 : decode cX9_advance 92 = .ok (.aload_n 0, 1) := by decide +kernel
theorem dX9_advance_93 : decode cX9_advance 93 = .ok (.invokevirtual 44, 3) := by decide +kernel
theorem dX9_advance_96 : decode cX9_advance 96 = .ok (.aload_n 0, 1) := by decide +kernel
theorem dX9_advance_97 : decode cX9_advance 97 = .ok (.aload_n 0, 1) := by decide +kernel
theorem dX9_advance_98 : decode cX9_advance 98 = .ok (.ldc 47, 2) := by decide +kernel
theorem dX9_advance_100 : decode cX9_advance 100 = .ok (.invokevirtual 49, 3) := by decide +kernel
theorem dX9_advance_103 : decode cX9_advance 103 = .ok (.putfield 35, 3) := by decide +kernel
theorem dX9_advance_106 : decode cX9_advance 106 = .ok (.goto 47, 3) := by decide +kernel
theorem dX9_advance_109 : decode cX9_advance 109 = .ok (.iload_n 2, 1) := by decide +kernel
theorem dX9_advance_110 : decode cX9_advance 110 = .ok (.bipush 48, 2) := by decide +kernel
theorem dX9_advance_112 : decode cX9_advance 112 = .ok (.if_icmp .lt 16, 3) := by decide +kernel
theorem dX9_advance_115 : decode cX9_advance 115 = .ok (.iload_n 2, 1) := by decide +kernel
theorem dX9_advance_116 : decode cX9_advance 116 = .ok (.bipush 57, 2) := by decide +kernel
theorem dX9_advance_118 : decode cX9_advance 118 = .ok (.if_icmp .gt 10, 3) := by decide +kernel
theorem dX9_advance_121 : decode cX9_advance 121 = .ok (.aload_n 0, 1) := by decide +kernel
theorem dX9_advance_122 : decode cX9_advance 122 = .ok (.invokevirtual 53, 3) := by decide +kernel
theorem dX9_advance_125 : decode cX9_advance 125 = .ok (.goto 28, 3) := by decide +kernel
theorem dX9_advance_128 : decode cX9_advance 128 = .ok (.aload_n 0, 1) := by decide +kernel
theorem dX9_advance_129 : decode cX9_advance 129 = .ok (.ldc 56, 2) := by decide +kernel
theorem dX9_advance_131 : decode cX9_advance 131 = .ok (.iload_n 2, 1) := by decide +kernel
theorem dX9_advance_132 : decode cX9_advance 132 = .ok (.invokevirtual 58, 3) := by decide +kernel
theorem dX9_advance_135 : decode cX9_advance 135 = .ok (.ifCond .lt 7, 3) := by decide +kernel
theorem dX9_advance_138 : decode cX9_advance 138 = .ok (.iconst 4, 1) := by decide +kernel
theorem dX9_advance_139 : decode cX9_advance 139 = .ok (.goto 4, 3) := by decide +kernel
theorem dX9_advance_142 : decode cX9_advance 142 = .ok (.iconst 1, 1) := by decide +kernel
theorem dX9_advance_143 : decode cX9_advance 143 = .ok (.putfield 19, 3) := by decide +kernel
theorem dX9_advance_146 : decode cX9_advance 146 = .ok (.aload_n 0, 1) := by decide +kernel
theorem dX9_advance_147 : decode cX9_advance 147 = .ok (.iload_n 1, 1) := by decide +kernel
theorem dX9_advance_148 : decode cX9_advance 148 = .ok (.iconst 1, 1) := by decide +kernel
theorem dX9_advance_149 : decode cX9_advance 149 = .ok (.iadd, 1) := by decide +kernel
theorem dX9_advance_150 : decode cX9_advance 150 = .ok (.putfield 25, 3) := by decide +kernel
theorem dX9_advance_153 : decode cX9_advance 153 = .ok (.return_, 1) := by decide +kernel
theorem dX9_scanWord_0 : decode cX9_scanWord 0 = .ok (.aload_n 0, 1) := by decide +kernel
theorem dX9_scanWord_1 : decode cX9_scanWord 1 = .ok (.getfield 22, 3) := by decide +kernel
theorem dX9_scanWord_4 : decode cX9_scanWord 4 = .ok (.istore_n 1, 1) := by decide +kernel
theorem dX9_scanWord_5 : decode cX9_scanWord 5 = .ok (.aload_n 0, 1) := by decide +kernel
theorem dX9_scanWord_6 : decode cX9_scanWord 6 = .ok (.lconst 0, 1) := by decide +kernel
theorem dX9_scanWord_7 : decode cX9_scanWord 7 = .ok (.putfield 31, 3) := by decide +kernel
theorem dX9_scanWord_10 : decode cX9_scanWord 10 = .ok (.iload_n 1, 1) := by decide +kernel
theorem dX9_scanWord_11 : decode cX9_scanWord 11 = .ok (.aload_n 0, 1) := by decide +kernel
theorem dX9_scanWord_12 : decode cX9_scanWord 12 = .ok (.getfield 15, 3) := by decide +kernel
theorem dX9_scanWord_15 : decode cX9_scanWord 15 = .ok (.if_icmp .ge 56, 3) := by decide +kernel
theorem dX9_scanWord_18 : decode cX9_scanWord 18 = .ok (.aload_n 0, 1) := by decide +kernel
theorem dX9_scanWord_19 : decode cX9_scanWord 19 = .ok (.getfield 11, 3) := by decide +kernel
theorem dX9_scanWord_22 : decode cX9_scanWord 22 = .ok (.iload_n 1, 1) := by decide +kernel
theorem dX9_scanWord_23 : decode cX9_scanWord 23 = .ok (.caload, 1) := by decide +kernel
theorem dX9_scanWord_24 : decode cX9_scanWord 24 = .ok (.bipush 97, 2) := by decide +kernel
theorem dX9_scanWord_26 : decode cX9_scanWord 26 = .ok (.if_icmp .lt 45, 3) := by decide +kernel
theorem dX9_scanWord_29 : decode cX9_scanWord 29 = .ok (.aload_n 0, 1) := by decide +kernel
theorem dX9_scanWord_30 : decode cX9_scanWord 30 = .ok (.getfield 11, 3) := by decide +kernel
theorem dX9_scanWord_33 : decode cX9_scanWord 33 = .ok (.iload_n 1, 1) := by decide +kernel
theorem dX9_scanWord_34 : decode cX9_scanWord 34 = .ok (.caload, 1) := by decide +kernel
theorem dX9_scanWord_35 : decode cX9_scanWord 35 = .ok (.bipush 122, 2) := by decide +kernel
theorem dX9_scanWord_37 : decode cX9_scanWord 37 = .ok (.if_icmp .gt 34, 3) := by decide +kernel
theorem dX9_scanWord_40 : decode cX9_scanWord 40 = .ok (.aload_n 0, 1) := by decide +kernel
theorem dX9_scanWord_41 : decode cX9_scanWord 41 = .ok (.aload_n 0, 1) := by decide +kernel
theorem dX9_scanWord_42 : decode cX9_scanWord 42 = .ok (.getfield 31, 3) := by decide +kernel
theorem dX9_scanWord_45 : decode cX9_scanWord 45 = .ok (.ldc2_w 64, 3) := by decide +kernel
theorem dX9_scanWord_48 : decode cX9_scanWord 48 = .ok (.lmul, 1) := by decide +kernel
theorem dX9_scanWord_49 : decode cX9_scanWord 49 = .ok (.aload_n 0, 1) := by decide +kernel
theorem dX9_scanWord_50 : decode cX9_scanWord 50 = .ok (.getfield 11, 3) := by decide +kernel
theorem dX9_scanWord_53 : decode cX9_scanWord 53 = .ok (.iload_n 1, 1) := by decide +kernel
theorem dX9_scanWord_54 : decode cX9_scanWord 54 = .ok (.caload, 1) := by decide +kernel
theorem dX9_scanWord_55 : decode cX9_scanWord 55 = .ok (.bipush 97, 2) := by decide +kernel
theorem dX9_scanWord_57 : decode cX9_scanWord 57 = .ok (.isub, 1) := by decide +kernel
theorem dX9_scanWord_58 : decode cX9_scanWord 58 = .ok (.iconst 1, 1) := by decide +kernel
theorem dX9_scanWord_59 : decode cX9_scanWord 59 = .ok (.iadd, 1) := by decide +kernel
theorem dX9_scanWord_60 : decode cX9_scanWord 60 = .ok (.i2l, 1) := by decide +kernel
theorem dX9_scanWord_61 : decode cX9_scanWord 61 = .ok (.ladd, 1) := by decide +kernel
theorem dX9_scanWord_62 : decode cX9_scanWord 62 = .ok (.putfield 31, 3) := by decide +kernel
theorem dX9_scanWord_65 : decode cX9_scanWord 65 = .ok (.iinc 1 1, 3) := by decide +kernel
theorem dX9_scanWord_68 : decode cX9_scanWord 68 = .ok (.goto (-58), 3) := by decide +kernel
theorem dX9_scanWord_71 : decode cX9_scanWord 71 = .ok (.aload_n 0, 1) := by decide +kernel
theorem dX9_scanWord_72 : decode cX9_scanWord 72 = .ok (.iload_n 1, 1) := by decide +kernel
theorem dX9_scanWord_73 : decode cX9_scanWord 73 = .ok (.putfield 25, 3) := by decide +kernel
theorem dX9_scanWord_76 : decode cX9_scanWord 76 = .ok (.aload_n 0, 1) := by decide +kernel
theorem dX9_scanWord_77 : decode cX9_scanWord 77 = .ok (.iload_n 1, 1) := by decide +kernel
theorem dX9_scanWord_78 : decode cX9_scanWord 78 = .ok (.aload_n 0, 1) := by decide +kernel
theorem dX9_scanWord_79 : decode cX9_scanWord 79 = .ok (.getfield 22, 3) := by decide +kernel
theorem dX9_scanWord_82 : decode cX9_scanWord 82 = .ok (.isub, 1) := by decide +kernel
theorem dX9_scanWord_83 : decode cX9_scanWord 83 = .ok (.bipush 8, 2) := by decide +kernel
theorem dX9_scanWord_85 : decode cX9_scanWord 85 = .ok (.if_icmp .le 7, 3) := by decide +kernel
theorem dX9_scanWord_88 : decode cX9_scanWord 88 = .ok (.iconst 1, 1) := by decide +kernel
theorem dX9_scanWord_89 : decode cX9_scanWord 89 = .ok (.goto 4, 3) := by decide +kernel
theorem dX9_scanWord_92 : decode cX9_scanWord 92 = .ok (.iconst 2, 1) := by decide +kernel
theorem dX9_scanWord_93 : decode cX9_scanWord 93 = .ok (.putfield 19, 3) := by decide +kernel
theorem dX9_scanWord_96 : decode cX9_scanWord 96 = .ok (.return_, 1) := by decide +kernel
theorem dX9_scanNumber_0 : decode cX9_scanNumber 0 = .ok (.aload_n 0, 1) := by decide +kernel
theorem dX9_scanNumber_1 : decode cX9_scanNumber 1 = .ok (.getfield 22, 3) := by decide +kernel
theorem dX9_scanNumber_4 : decode cX9_scanNumber 4 = .ok (.istore_n 1, 1) := by decide +kernel
theorem dX9_scanNumber_5 : decode cX9_scanNumber 5 = .ok (.aload_n 0, 1) := by decide +kernel
theorem dX9_scanNumber_6 : decode cX9_scanNumber 6 = .ok (.iconst 0, 1) := by decide +kernel
theorem dX9_scanNumber_7 : decode cX9_scanNumber 7 = .ok (.putfield 28, 3) := by decide +kernel
theorem dX9_scanNumber_10 : decode cX9_scanNumber 10 = .ok (.iload_n 1, 1) := by decide +kernel
theorem dX9_scanNumber_11 : decode cX9_scanNumber 11 = .ok (.aload_n 0, 1) := by decide +kernel
theorem dX9_scanNumber_12 : decode cX9_scanNumber 12 = .ok (.getfield 15, 3) := by decide +kernel
theorem dX9_scanNumber_15 : decode cX9_scanNumber 15 = .ok (.if_icmp .ge 52, 3) := by decide +kernel
theorem dX9_scanNumber_18 : decode cX9_scanNumber 18 = .ok (.aload_n 0, 1) := by decide +kernel
theorem dX9_scanNumber_19 : decode cX9_scanNumber 19 = .ok (.getfield 11, 3) := by decide +kernel
theorem dX9_scanNumber_22 : decode cX9_scanNumber 22 = .ok (.iload_n 1, 1) := by decide +kernel
theorem dX9_scanNumber_23 : decode cX9_scanNumber 23 = .ok (.caload, 1) := by decide +kernel
theorem dX9_scanNumber_24 : decode cX9_scanNumber 24 = .ok (.bipush 48, 2) := by decide +kernel
theorem dX9_scanNumber_26 : decode cX9_scanNumber 26 = .ok (.if_icmp .lt 41, 3) := by decide +kernel
theorem dX9_scanNumber_29 : decode cX9_scanNumber 29 = .ok (.aload_n 0, 1) := by decide +kernel
theorem dX9_scanNumber_30 : decode cX9_scanNumber 30 = .ok (.getfield 11, 3) := by decide +kernel
theorem dX9_scanNumber_33 : decode cX9_scanNumber 33 = .ok (.iload_n 1, 1) := by decide +kernel
theorem dX9_scanNumber_34 : decode cX9_scanNumber 34 = .ok (.caload, 1) := by decide +kernel
theorem dX9_scanNumber_35 : decode cX9_scanNumber 35 = .ok (.bipush 57, 2) := by decide +kernel
theorem dX9_scanNumber_37 : decode cX9_scanNumber 37 = .ok (.if_icmp .gt 30, 3) := by decide +kernel
theorem dX9_scanNumber_40 : decode cX9_scanNumber 40 = .ok (.aload_n 0, 1) := by decide +kernel
theorem dX9_scanNumber_41 : decode cX9_scanNumber 41 = .ok (.aload_n 0, 1) := by decide +kernel
theorem dX9_scanNumber_42 : decode cX9_scanNumber 42 = .ok (.getfield 28, 3) := by decide +kernel
theorem dX9_scanNumber_45 : decode cX9_scanNumber 45 = .ok (.bipush 10, 2) := by decide +kernel
theorem dX9_scanNumber_47 : decode cX9_scanNumber 47 = .ok (.imul, 1) := by decide +kernel
theorem dX9_scanNumber_48 : decode cX9_scanNumber 48 = .ok (.aload_n 0, 1) := by decide +kernel
theorem dX9_scanNumber_49 : decode cX9_scanNumber 49 = .ok (.getfield 11, 3) := by decide +kernel
theorem dX9_scanNumber_52 : decode cX9_scanNumber 52 = .ok (.iload_n 1, 1) := by decide +kernel
theorem dX9_scanNumber_53 : decode cX9_scanNumber 53 = .ok (.caload, 1) := by decide +kernel
theorem dX9_scanNumber_54 : decode cX9_scanNumber 54 = .ok (.bipush 48, 2) := by decide +kernel
theorem dX9_scanNumber_56 : decode cX9_scanNumber 56 = .ok (.isub, 1) := by decide +kernel
theorem dX9_scanNumber_57 : decode cX9_scanNumber 57 = .ok (.iadd, 1) := by decide +kernel
theorem dX9_scanNumber_58 : decode cX9_scanNumber 58 = .ok (.putfield 28, 3) := by decide +kernel
theorem dX9_scanNumber_61 : decode cX9_scanNumber 61 = .ok (.iinc 1 1, 3) := by decide +kernel
theorem dX9_scanNumber_64 : decode cX9_scanNumber 64 = .ok (.goto (-54), 3) := by decide +kernel
theorem dX9_scanNumber_67 : decode cX9_scanNumber 67 = .ok (.aload_n 0, 1) := by decide +kernel
theorem dX9_scanNumber_68 : decode cX9_scanNumber 68 = .ok (.iload_n 1, 1) := by decide +kernel
theorem dX9_scanNumber_69 : decode cX9_scanNumber 69 = .ok (.putfield 25, 3) := by decide +kernel
theorem dX9_scanNumber_72 : decode cX9_scanNumber 72 = .ok (.aload_n 0, 1) := by decide +kernel
theorem dX9_scanNumber_73 : decode cX9_scanNumber 73 = .ok (.iload_n 1, 1) := by decide +kernel
theorem dX9_scanNumber_74 : decode cX9_scanNumber 74 = .ok (.aload_n 0, 1) := by decide +kernel
theorem dX9_scanNumber_75 : decode cX9_scanNumber 75 = .ok (.getfield 22, 3) := by decide +kernel
theorem dX9_scanNumber_78 : decode cX9_scanNumber 78 = .ok (.isub, 1) := by decide +kernel
theorem dX9_scanNumber_79 : decode cX9_scanNumber 79 = .ok (.iconst 4, 1) := by decide +kernel
theorem dX9_scanNumber_80 : decode cX9_scanNumber 80 = .ok (.if_icmp .le 7, 3) := by decide +kernel
theorem dX9_scanNumber_83 : decode cX9_scanNumber 83 = .ok (.iconst 1, 1) := by decide +kernel
theorem dX9_scanNumber_84 : decode cX9_scanNumber 84 = .ok (.goto 4, 3) := by decide +kernel
theorem dX9_scanNumber_87 : decode cX9_scanNumber 87 = .ok (.iconst 3, 1) := by decide +kernel
theorem dX9_scanNumber_88 : decode cX9_scanNumber 88 = .ok (.putfield 19, 3) := by decide +kernel
theorem dX9_scanNumber_91 : decode cX9_scanNumber 91 = .ok (.return_, 1) := by decide +kernel
theorem dX9_placeIn_0 : decode cX9_placeIn 0 = .ok (.aload_n 0, 1) := by decide +kernel
theorem dX9_placeIn_1 : decode cX9_placeIn 1 = .ok (.getfield 19, 3) := by decide +kernel
theorem dX9_placeIn_4 : decode cX9_placeIn 4 = .ok (.iconst 2, 1) := by decide +kernel
theorem dX9_placeIn_5 : decode cX9_placeIn 5 = .ok (.if_icmp .eq 5, 3) := by decide +kernel
theorem dX9_placeIn_8 : decode cX9_placeIn 8 = .ok (.iconst (-1), 1) := by decide +kernel
theorem dX9_placeIn_9 : decode cX9_placeIn 9 = .ok (.ireturn, 1) := by decide +kernel
theorem dX9_placeIn_10 : decode cX9_placeIn 10 = .ok (.iconst 0, 1) := by decide +kernel
theorem dX9_placeIn_11 : decode cX9_placeIn 11 = .ok (.istore_n 2, 1) := by decide +kernel
theorem dX9_placeIn_12 : decode cX9_placeIn 12 = .ok (.lconst 0, 1) := by decide +kernel
theorem dX9_placeIn_13 : decode cX9_placeIn 13 = .ok (.lstore_n 3, 1) := by decide +kernel
theorem dX9_placeIn_14 : decode cX9_placeIn 14 = .ok (.iconst 0, 1) := by decide +kernel
theorem dX9_placeIn_15 : decode cX9_placeIn 15 = .ok (.istore 5, 2) := by decide +kernel
theorem dX9_placeIn_17 : decode cX9_placeIn 17 = .ok (.iload 5, 2) := by decide +kernel
theorem dX9_placeIn_19 : decode cX9_placeIn 19 = .ok (.aload_n 1, 1) := by decide +kernel
theorem dX9_placeIn_20 : decode cX9_placeIn 20 = .ok (.invokevirtual 66, 3) := by decide +kernel
theorem dX9_placeIn_23 : decode cX9_placeIn 23 = .ok (.if_icmp .ge 58, 3) := by decide +kernel
theorem dX9_placeIn_26 : decode cX9_placeIn 26 = .ok (.aload_n 1, 1) := by decide +kernel
theorem dX9_placeIn_27 : decode cX9_placeIn 27 = .ok (.iload 5, 2) := by decide +kernel
theorem dX9_placeIn_29 : decode cX9_placeIn 29 = .ok (.invokevirtual 69, 3) := by decide +kernel
theorem dX9_placeIn_32 : decode cX9_placeIn 32 = .ok (.istore 6, 2) := by decide +kernel
theorem dX9_placeIn_34 : decode cX9_placeIn 34 = .ok (.iload 6, 2) := by decide +kernel
theorem dX9_placeIn_36 : decode cX9_placeIn 36 = .ok (.bipush 32, 2) := by decide +kernel
theorem dX9_placeIn_38 : decode cX9_placeIn 38 = .ok (.if_icmp .eq 21, 3) := by decide +kernel
theorem dX9_placeIn_41 : decode cX9_placeIn 41 = .ok (.lload_n 3, 1) := by decide +kernel
theorem dX9_placeIn_42 : decode cX9_placeIn 42 = .ok (.ldc2_w 64, 3) := by decide +kernel
theorem dX9_placeIn_45 : decode cX9_placeIn 45 = .ok (.lmul, 1) := by decide +kernel
theorem dX9_placeIn_46 : decode cX9_placeIn 46 = .ok (.iload 6, 2) := by decide +kernel
theorem dX9_placeIn_48 : decode cX9_placeIn 48 = .ok (.bipush 97, 2) := by decide +kernel
theorem dX9_placeIn_50 : decode cX9_placeIn 50 = .ok (.isub, 1) := by decide +kernel
theorem dX9_placeIn_51 : decode cX9_placeIn 51 = .ok (.iconst 1, 1) := by decide +kernel
theorem dX9_placeIn_52 : decode cX9_placeIn 52 = .ok (.iadd, 1) := by decide +kernel
theorem dX9_placeIn_53 : decode cX9_placeIn 53 = .ok (.i2l, 1) := by decide +kernel
theorem dX9_placeIn_54 : decode cX9_placeIn 54 = .ok (.ladd, 1) := by decide +kernel
theorem dX9_placeIn_55 : decode cX9_placeIn 55 = .ok (.lstore_n 3, 1) := by decide +kernel
theorem dX9_placeIn_56 : decode cX9_placeIn 56 = .ok (.goto 19, 3) := by decide +kernel
theorem dX9_placeIn_59 : decode cX9_placeIn 59 = .ok (.lload_n 3, 1) := by decide +kernel
theorem dX9_placeIn_60 : decode cX9_placeIn 60 = .ok (.aload_n 0, 1) := by decide +kernel
theorem dX9_placeIn_61 : decode cX9_placeIn 61 = .ok (.getfield 31, 3) := by decide +kernel
theorem dX9_placeIn_64 : decode cX9_placeIn 64 = .ok (.lcmp, 1) := by decide +kernel
theorem dX9_placeIn_65 : decode cX9_placeIn 65 = .ok (.ifCond .ne 5, 3) := by decide +kernel
theorem dX9_placeIn_68 : decode cX9_placeIn 68 = .ok (.iload_n 2, 1) := by decide +kernel
theorem dX9_placeIn_69 : decode cX9_placeIn 69 = .ok (.ireturn, 1) := by decide +kernel
theorem dX9_placeIn_70 : decode cX9_placeIn 70 = .ok (.iinc 2 1, 3) := by decide +kernel
theorem dX9_placeIn_73 : decode cX9_placeIn 73 = .ok (.lconst 0, 1) := by decide +kernel
theorem dX9_placeIn_74 : decode cX9_placeIn 74 = .ok (.lstore_n 3, 1) := by decide +kernel
theorem dX9_placeIn_75 : decode cX9_placeIn 75 = .ok (.iinc 5 1, 3) := by decide +kernel
theorem dX9_placeIn_78 : decode cX9_placeIn 78 = .ok (.goto (-61), 3) := by decide +kernel
theorem dX9_placeIn_81 : decode cX9_placeIn 81 = .ok (.iconst (-1), 1) := by decide +kernel
theorem dX9_placeIn_82 : decode cX9_placeIn 82 = .ok (.ireturn, 1) := by decide +kernel
theorem dX9_isAtEnd_0 : decode cX9_isAtEnd 0 = .ok (.aload_n 0, 1) := by decide +kernel
theorem dX9_isAtEnd_1 : decode cX9_isAtEnd 1 = .ok (.getfield 19, 3) := by decide +kernel
theorem dX9_isAtEnd_4 : decode cX9_isAtEnd 4 = .ok (.ifCond .ne 7, 3) := by decide +kernel
theorem dX9_isAtEnd_7 : decode cX9_isAtEnd 7 = .ok (.iconst 1, 1) := by decide +kernel
theorem dX9_isAtEnd_8 : decode cX9_isAtEnd 8 = .ok (.goto 4, 3) := by decide +kernel
theorem dX9_isAtEnd_11 : decode cX9_isAtEnd 11 = .ok (.iconst 0, 1) := by decide +kernel
theorem dX9_isAtEnd_12 : decode cX9_isAtEnd 12 = .ok (.ireturn, 1) := by decide +kernel
theorem dX9_isNumber_0 : decode cX9_isNumber 0 = .ok (.aload_n 0, 1) := by decide +kernel
theorem dX9_isNumber_1 : decode cX9_isNumber 1 = .ok (.getfield 19, 3) := by decide +kernel
theorem dX9_isNumber_4 : decode cX9_isNumber 4 = .ok (.iconst 3, 1) := by decide +kernel
theorem dX9_isNumber_5 : decode cX9_isNumber 5 = .ok (.if_icmp .ne 7, 3) := by decide +kernel
theorem dX9_isNumber_8 : decode cX9_isNumber 8 = .ok (.iconst 1, 1) := by decide +kernel
theorem dX9_isNumber_9 : decode cX9_isNumber 9 = .ok (.goto 4, 3) := by decide +kernel
theorem dX9_isNumber_12 : decode cX9_isNumber 12 = .ok (.iconst 0, 1) := by decide +kernel
theorem dX9_isNumber_13 : decode cX9_isNumber 13 = .ok (.ireturn, 1) := by decide +kernel
theorem dX9_isName_0 : decode cX9_isName 0 = .ok (.aload_n 0, 1) := by decide +kernel
theorem dX9_isName_1 : decode cX9_isName 1 = .ok (.getfield 19, 3) := by decide +kernel
theorem dX9_isName_4 : decode cX9_isName 4 = .ok (.iconst 2, 1) := by decide +kernel
theorem dX9_isName_5 : decode cX9_isName 5 = .ok (.if_icmp .ne 15, 3) := by decide +kernel
theorem dX9_isName_8 : decode cX9_isName 8 = .ok (.aload_n 0, 1) := by decide +kernel
theorem dX9_isName_9 : decode cX9_isName 9 = .ok (.getfield 35, 3) := by decide +kernel
theorem dX9_isName_12 : decode cX9_isName 12 = .ok (.iconst (-1), 1) := by decide +kernel
theorem dX9_isName_13 : decode cX9_isName 13 = .ok (.if_icmp .ne 7, 3) := by decide +kernel
theorem dX9_isName_16 : decode cX9_isName 16 = .ok (.iconst 1, 1) := by decide +kernel
theorem dX9_isName_17 : decode cX9_isName 17 = .ok (.goto 4, 3) := by decide +kernel
theorem dX9_isName_20 : decode cX9_isName 20 = .ok (.iconst 0, 1) := by decide +kernel
theorem dX9_isName_21 : decode cX9_isName 21 = .ok (.ireturn, 1) := by decide +kernel
theorem dX9_isSign_0 : decode cX9_isSign 0 = .ok (.aload_n 0, 1) := by decide +kernel
theorem dX9_isSign_1 : decode cX9_isSign 1 = .ok (.getfield 19, 3) := by decide +kernel
theorem dX9_isSign_4 : decode cX9_isSign 4 = .ok (.iconst 4, 1) := by decide +kernel
theorem dX9_isSign_5 : decode cX9_isSign 5 = .ok (.if_icmp .ne 20, 3) := by decide +kernel
theorem dX9_isSign_8 : decode cX9_isSign 8 = .ok (.aload_n 0, 1) := by decide +kernel
theorem dX9_isSign_9 : decode cX9_isSign 9 = .ok (.getfield 11, 3) := by decide +kernel
theorem dX9_isSign_12 : decode cX9_isSign 12 = .ok (.aload_n 0, 1) := by decide +kernel
theorem dX9_isSign_13 : decode cX9_isSign 13 = .ok (.getfield 22, 3) := by decide +kernel
theorem dX9_isSign_16 : decode cX9_isSign 16 = .ok (.caload, 1) := by decide +kernel
theorem dX9_isSign_17 : decode cX9_isSign 17 = .ok (.iload_n 1, 1) := by decide +kernel
theorem dX9_isSign_18 : decode cX9_isSign 18 = .ok (.if_icmp .ne 7, 3) := by decide +kernel
theorem dX9_isSign_21 : decode cX9_isSign 21 = .ok (.iconst 1, 1) := by decide +kernel
theorem dX9_isSign_22 : decode cX9_isSign 22 = .ok (.goto 4, 3) := by decide +kernel
theorem dX9_isSign_25 : decode cX9_isSign 25 = .ok (.iconst 0, 1) := by decide +kernel
theorem dX9_isSign_26 : decode cX9_isSign 26 = .ok (.ireturn, 1) := by decide +kernel
theorem dX9_isWrong_0 : decode cX9_isWrong 0 = .ok (.aload_n 0, 1) := by decide +kernel
theorem dX9_isWrong_1 : decode cX9_isWrong 1 = .ok (.iload_n 1, 1) := by decide +kernel
theorem dX9_isWrong_2 : decode cX9_isWrong 2 = .ok (.bipush 16, 2) := by decide +kernel
theorem dX9_isWrong_4 : decode cX9_isWrong 4 = .ok (.aload_n 0, 1) := by decide +kernel
theorem dX9_isWrong_5 : decode cX9_isWrong 5 = .ok (.getfield 22, 3) := by decide +kernel
theorem dX9_isWrong_8 : decode cX9_isWrong 8 = .ok (.imul, 1) := by decide +kernel
theorem dX9_isWrong_9 : decode cX9_isWrong 9 = .ok (.iadd, 1) := by decide +kernel
theorem dX9_isWrong_10 : decode cX9_isWrong 10 = .ok (.putfield 38, 3) := by decide +kernel
theorem dX9_isWrong_13 : decode cX9_isWrong 13 = .ok (.iconst 0, 1) := by decide +kernel
theorem dX9_isWrong_14 : decode cX9_isWrong 14 = .ok (.ireturn, 1) := by decide +kernel
theorem dX9_takesWord_0 : decode cX9_takesWord 0 = .ok (.aload_n 0, 1) := by decide +kernel
theorem dX9_takesWord_1 : decode cX9_takesWord 1 = .ok (.getfield 35, 3) := by decide +kernel
theorem dX9_takesWord_4 : decode cX9_takesWord 4 = .ok (.iload_n 1, 1) := by decide +kernel
theorem dX9_takesWord_5 : decode cX9_takesWord 5 = .ok (.if_icmp .eq 9, 3) := by decide +kernel
theorem dX9_takesWord_8 : decode cX9_takesWord 8 = .ok (.aload_n 0, 1) := by decide +kernel
theorem dX9_takesWord_9 : decode cX9_takesWord 9 = .ok (.iconst 1, 1) := by decide +kernel
theorem dX9_takesWord_10 : decode cX9_takesWord 10 = .ok (.invokevirtual 73, 3) := by decide +kernel
theorem dX9_takesWord_13 : decode cX9_takesWord 13 = .ok (.ireturn, 1) := by decide +kernel
theorem dX9_takesWord_14 : decode cX9_takesWord 14 = .ok (.aload_n 0, 1) := by decide +kernel
theorem dX9_takesWord_15 : decode cX9_takesWord 15 = .ok (.invokevirtual 41, 3) := by decide +kernel
theorem dX9_takesWord_18 : decode cX9_takesWord 18 = .ok (.iconst 1, 1) := by decide +kernel
theorem dX9_takesWord_19 : decode cX9_takesWord 19 = .ok (.ireturn, 1) := by decide +kernel
theorem dX9_takesSign_0 : decode cX9_takesSign 0 = .ok (.aload_n 0, 1) := by decide +kernel
theorem dX9_takesSign_1 : decode cX9_takesSign 1 = .ok (.iload_n 1, 1) := by decide +kernel
theorem dX9_takesSign_2 : decode cX9_takesSign 2 = .ok (.invokevirtual 77, 3) := by decide +kernel
theorem dX9_takesSign_5 : decode cX9_takesSign 5 = .ok (.ifCond .ne 9, 3) := by decide +kernel
theorem dX9_takesSign_8 : decode cX9_takesSign 8 = .ok (.aload_n 0, 1) := by decide +kernel
theorem dX9_takesSign_9 : decode cX9_takesSign 9 = .ok (.iconst 1, 1) := by decide +kernel
theorem dX9_takesSign_10 : decode cX9_takesSign 10 = .ok (.invokevirtual 73, 3) := by decide +kernel
theorem dX9_takesSign_13 : decode cX9_takesSign 13 = .ok (.ireturn, 1) := by decide +kernel
theorem dX9_takesSign_14 : decode cX9_takesSign 14 = .ok (.aload_n 0, 1) := by decide +kernel
theorem dX9_takesSign_15 : decode cX9_takesSign 15 = .ok (.invokevirtual 41, 3) := by decide +kernel
theorem dX9_takesSign_18 : decode cX9_takesSign 18 = .ok (.iconst 1, 1) := by decide +kernel
theorem dX9_takesSign_19 : decode cX9_takesSign 19 = .ok (.ireturn, 1) := by decide +kernel
theorem dX9_hasNumber_0 : decode cX9_hasNumber 0 = .ok (.aload_n 0, 1) := by decide +kernel
theorem dX9_hasNumber_1 : decode cX9_hasNumber 1 = .ok (.getfield 19, 3) := by decide +kernel
theorem dX9_hasNumber_4 : decode cX9_hasNumber 4 = .ok (.iconst 3, 1) := by decide +kernel
theorem dX9_hasNumber_5 : decode cX9_hasNumber 5 = .ok (.if_icmp .eq 9, 3) := by decide +kernel
theorem dX9_hasNumber_8 : decode cX9_hasNumber 8 = .ok (.aload_n 0, 1) := by decide +kernel
theorem dX9_hasNumber_9 : decode cX9_hasNumber 9 = .ok (.iconst 1, 1) := by decide +kernel
theorem dX9_hasNumber_10 : decode cX9_hasNumber 10 = .ok (.invokevirtual 73, 3) := by decide +kernel
theorem dX9_hasNumber_13 : decode cX9_hasNumber 13 = .ok (.ireturn, 1) := by decide +kernel
theorem dX9_hasNumber_14 : decode cX9_hasNumber 14 = .ok (.aload_n 0, 1) := by decide +kernel
theorem dX9_hasNumber_15 : decode cX9_hasNumber 15 = .ok (.getfield 28, 3) := by decide +kernel
theorem dX9_hasNumber_18 : decode cX9_hasNumber 18 = .ok (.iload_n 1, 1) := by decide +kernel
theorem dX9_hasNumber_19 : decode cX9_hasNumber 19 = .ok (.if_icmp .lt 11, 3) := by decide +kernel
theorem dX9_hasNumber_22 : decode cX9_hasNumber 22 = .ok (.aload_n 0, 1) := by decide +kernel
theorem dX9_hasNumber_23 : decode cX9_hasNumber 23 = .ok (.getfield 28, 3) := by decide +kernel
theorem dX9_hasNumber_26 : decode cX9_hasNumber 26 = .ok (.iload_n 2, 1) := by decide +kernel
theorem dX9_hasNumber_27 : decode cX9_hasNumber 27 = .ok (.if_icmp .le 11, 3) := by decide +kernel
theorem dX9_hasNumber_30 : decode cX9_hasNumber 30 = .ok (.aload_n 0, 1) := by decide +kernel
theorem dX9_hasNumber_31 : decode cX9_hasNumber 31 = .ok (.iconst 4, 1) := by decide +kernel
theorem dX9_hasNumber_32 : decode cX9_hasNumber 32 = .ok (.invokevirtual 73, 3) := by decide +kernel
theorem dX9_hasNumber_35 : decode cX9_hasNumber 35 = .ok (.ifCond .eq 7, 3) := by decide +kernel
theorem dX9_hasNumber_38 : decode cX9_hasNumber 38 = .ok (.iconst 1, 1) := by decide +kernel
theorem dX9_hasNumber_39 : decode cX9_hasNumber 39 = .ok (.goto 4, 3) := by decide +kernel
theorem dX9_hasNumber_42 : decode cX9_hasNumber 42 = .ok (.iconst 0, 1) := by decide +kernel
theorem dX9_hasNumber_43 : decode cX9_hasNumber 43 = .ok (.ireturn, 1) := by decide +kernel
theorem dX10_init_0 : decode cX10_init 0 = .ok (.aload_n 0, 1) := by decide +kernel
theorem dX10_init_1 : decode cX10_init 1 = .ok (.invokespecial 5, 3) := by decide +kernel
theorem dX10_init_4 : decode cX10_init 4 = .ok (.aload_n 0, 1) := by decide +kernel
theorem dX10_init_5 : decode cX10_init 5 = .ok (.iconst 0, 1) := by decide +kernel
theorem dX10_init_6 : decode cX10_init 6 = .ok (.putfield 11, 3) := by decide +kernel
theorem dX10_init_9 : decode cX10_init 9 = .ok (.aload_n 0, 1) := by decide +kernel
theorem dX10_init_10 : decode cX10_init 10 = .ok (.iconst 0, 1) := by decide +kernel
theorem dX10_init_11 : decode cX10_init 11 = .ok (.putfield 15, 3) := by decide +kernel
theorem dX10_init_14 : decode cX10_init 14 = .ok (.aload_n 0, 1) := by decide +kernel
theorem dX10_init_15 : decode cX10_init 15 = .ok (.iconst 0, 1) := by decide +kernel
theorem dX10_init_16 : decode cX10_init 16 = .ok (.putfield 18, 3) := by decide +kernel
theorem dX10_init_19 : decode cX10_init 19 = .ok (.aload_n 0, 1) := by decide +kernel
theorem dX10_init_20 : decode cX10_init 20 = .ok (.iconst 0, 1) := by decide +kernel
theorem dX10_init_21 : decode cX10_init 21 = .ok (.putfield 21, 3) := by decide +kernel
theorem dX10_init_24 : decode cX10_init 24 = .ok (.aload_n 0, 1) := by decide +kernel
theorem dX10_init_25 : decode cX10_init 25 = .ok (.iconst 0, 1) := by decide +kernel
