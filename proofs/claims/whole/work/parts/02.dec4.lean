theorem dX12_proof_36 : decode cX12_proof 36 = .ok (.iload 4, 2) := by decide +kernel
theorem dX12_proof_38 : decode cX12_proof 38 = .ok (.iconst 1, 1) := by decide +kernel
theorem dX12_proof_39 : decode cX12_proof 39 = .ok (.aload_n 0, 1) := by decide +kernel
theorem dX12_proof_40 : decode cX12_proof 40 = .ok (.invokevirtual 278, 3) := by decide +kernel
theorem dX12_proof_43 : decode cX12_proof 43 = .ok (.ishl, 1) := by decide +kernel
theorem dX12_proof_44 : decode cX12_proof 44 = .ok (.if_icmp .ge 92, 3) := by decide +kernel
theorem dX12_proof_47 : decode cX12_proof 47 = .ok (.iconst 0, 1) := by decide +kernel
theorem dX12_proof_48 : decode cX12_proof 48 = .ok (.istore 5, 2) := by decide +kernel
theorem dX12_proof_50 : decode cX12_proof 50 = .ok (.iconst 0, 1) := by decide +kernel
theorem dX12_proof_51 : decode cX12_proof 51 = .ok (.istore 6, 2) := by decide +kernel
theorem dX12_proof_53 : decode cX12_proof 53 = .ok (.iload 6, 2) := by decide +kernel
theorem dX12_proof_55 : decode cX12_proof 55 = .ok (.aload_n 0, 1) := by decide +kernel
theorem dX12_proof_56 : decode cX12_proof 56 = .ok (.invokevirtual 278, 3) := by decide +kernel
theorem dX12_proof_59 : decode cX12_proof 59 = .ok (.if_icmp .ge 39, 3) := by decide +kernel
theorem dX12_proof_62 : decode cX12_proof 62 = .ok (.iload 5, 2) := by decide +kernel
theorem dX12_proof_64 : decode cX12_proof 64 = .ok (.iload 4, 2) := by decide +kernel
theorem dX12_proof_66 : decode cX12_proof 66 = .ok (.iload 6, 2) := by decide +kernel
theorem dX12_proof_68 : decode cX12_proof 68 = .ok (.ishr, 1) := by decide +kernel
theorem dX12_proof_69 : decode cX12_proof 69 = .ok (.iconst 1, 1) := by decide +kernel
theorem dX12_proof_70 : decode cX12_proof 70 = .ok (.iand, 1) := by decide +kernel
theorem dX12_proof_71 : decode cX12_proof 71 = .ok (.iconst 1, 1) := by decide +kernel
theorem dX12_proof_72 : decode cX12_proof 72 = .ok (.if_icmp .ne 16, 3) := by decide +kernel
theorem dX12_proof_75 : decode cX12_proof 75 = .ok (.aload_n 0, 1) := by decide +kernel
theorem dX12_proof_76 : decode cX12_proof 76 = .ok (.iconst 0, 1) := by decide +kernel
theorem dX12_proof_77 : decode cX12_proof 77 = .ok (.iload 6, 2) := by decide +kernel
theorem dX12_proof_79 : decode cX12_proof 79 = .ok (.iload_n 1, 1) := by decide +kernel
theorem dX12_proof_80 : decode cX12_proof 80 = .ok (.bipush 6, 2) := by decide +kernel
theorem dX12_proof_82 : decode cX12_proof 82 = .ok (.invokevirtual 330, 3) := by decide +kernel
theorem dX12_proof_85 : decode cX12_proof 85 = .ok (.goto 4, 3) := by decide +kernel
theorem dX12_proof_88 : decode cX12_proof 88 = .ok (.iconst 0, 1) := by decide +kernel
theorem dX12_proof_89 : decode cX12_proof 89 = .ok (.ior, 1) := by decide +kernel
theorem dX12_proof_90 : decode cX12_proof 90 = .ok (.istore 5, 2) := by decide +kernel
theorem dX12_proof_92 : decode cX12_proof 92 = .ok (.iinc 6 1, 3) := by decide +kernel
theorem dX12_proof_95 : decode cX12_proof 95 = .ok (.goto (-42), 3) := by decide +kernel
theorem dX12_proof_98 : decode cX12_proof 98 = .ok (.iload_n 2, 1) := by decide +kernel
theorem dX12_proof_99 : decode cX12_proof 99 = .ok (.iload 5, 2) := by decide +kernel
theorem dX12_proof_101 : decode cX12_proof 101 = .ok (.iconst (-1), 1) := by decide +kernel
theorem dX12_proof_102 : decode cX12_proof 102 = .ok (.ixor, 1) := by decide +kernel
theorem dX12_proof_103 : decode cX12_proof 103 = .ok (.iand, 1) := by decide +kernel
theorem dX12_proof_104 : decode cX12_proof 104 = .ok (.ifCond .ne 24, 3) := by decide +kernel
theorem dX12_proof_107 : decode cX12_proof 107 = .ok (.iload_n 3, 1) := by decide +kernel
theorem dX12_proof_108 : decode cX12_proof 108 = .ok (.ifCond .lt 15, 3) := by decide +kernel
theorem dX12_proof_111 : decode cX12_proof 111 = .ok (.iload 4, 2) := by decide +kernel
theorem dX12_proof_113 : decode cX12_proof 113 = .ok (.invokestatic 374, 3) := by decide +kernel
theorem dX12_proof_116 : decode cX12_proof 116 = .ok (.iload_n 3, 1) := by decide +kernel
theorem dX12_proof_117 : decode cX12_proof 117 = .ok (.invokestatic 374, 3) := by decide +kernel
theorem dX12_proof_120 : decode cX12_proof 120 = .ok (.if_icmp .ge 8, 3) := by decide +kernel
theorem dX12_proof_123 : decode cX12_proof 123 = .ok (.iload 4, 2) := by decide +kernel
theorem dX12_proof_125 : decode cX12_proof 125 = .ok (.goto 4, 3) := by decide +kernel
theorem dX12_proof_128 : decode cX12_proof 128 = .ok (.iload_n 3, 1) := by decide +kernel
theorem dX12_proof_129 : decode cX12_proof 129 = .ok (.istore_n 3, 1) := by decide +kernel
theorem dX12_proof_130 : decode cX12_proof 130 = .ok (.iinc 4 1, 3) := by decide +kernel
theorem dX12_proof_133 : decode cX12_proof 133 = .ok (.goto (-97), 3) := by decide +kernel
theorem dX12_proof_136 : decode cX12_proof 136 = .ok (.iload_n 3, 1) := by decide +kernel
theorem dX12_proof_137 : decode cX12_proof 137 = .ok (.ireturn, 1) := by decide +kernel
theorem dX12_washes_0 : decode cX12_washes 0 = .ok (.aload_n 0, 1) := by decide +kernel
theorem dX12_washes_1 : decode cX12_washes 1 = .ok (.iconst 0, 1) := by decide +kernel
theorem dX12_washes_2 : decode cX12_washes 2 = .ok (.putfield 1, 3) := by decide +kernel
theorem dX12_washes_5 : decode cX12_washes 5 = .ok (.aload_n 0, 1) := by decide +kernel
theorem dX12_washes_6 : decode cX12_washes 6 = .ok (.iload_n 1, 1) := by decide +kernel
theorem dX12_washes_7 : decode cX12_washes 7 = .ok (.invokevirtual 343, 3) := by decide +kernel
theorem dX12_washes_10 : decode cX12_washes 10 = .ok (.ifCond .eq 11, 3) := by decide +kernel
theorem dX12_washes_13 : decode cX12_washes 13 = .ok (.aload_n 0, 1) := by decide +kernel
theorem dX12_washes_14 : decode cX12_washes 14 = .ok (.iload_n 2, 1) := by decide +kernel
theorem dX12_washes_15 : decode cX12_washes 15 = .ok (.invokevirtual 352, 3) := by decide +kernel
theorem dX12_washes_18 : decode cX12_washes 18 = .ok (.ifCond .ne 5, 3) := by decide +kernel
theorem dX12_washes_21 : decode cX12_washes 21 = .ok (.iconst (-1), 1) := by decide +kernel
theorem dX12_washes_22 : decode cX12_washes 22 = .ok (.ireturn, 1) := by decide +kernel
theorem dX12_washes_23 : decode cX12_washes 23 = .ok (.iconst 0, 1) := by decide +kernel
theorem dX12_washes_24 : decode cX12_washes 24 = .ok (.istore_n 3, 1) := by decide +kernel
theorem dX12_washes_25 : decode cX12_washes 25 = .ok (.iconst 0, 1) := by decide +kernel
theorem dX12_washes_26 : decode cX12_washes 26 = .ok (.istore 4, 2) := by decide +kernel
theorem dX12_washes_28 : decode cX12_washes 28 = .ok (.iload 4, 2) := by decide +kernel
theorem dX12_washes_30 : decode cX12_washes 30 = .ok (.aload_n 0, 1) := by decide +kernel
theorem dX12_washes_31 : decode cX12_washes 31 = .ok (.invokevirtual 278, 3) := by decide +kernel
theorem dX12_washes_34 : decode cX12_washes 34 = .ok (.if_icmp .ge 110, 3) := by decide +kernel
theorem dX12_washes_37 : decode cX12_washes 37 = .ok (.iconst (-1), 1) := by decide +kernel
theorem dX12_washes_38 : decode cX12_washes 38 = .ok (.istore 5, 2) := by decide +kernel
theorem dX12_washes_40 : decode cX12_washes 40 = .ok (.aload_n 0, 1) := by decide +kernel
theorem dX12_washes_41 : decode cX12_washes 41 = .ok (.getfield 119, 3) := by decide +kernel
theorem dX12_washes_44 : decode cX12_washes 44 = .ok (.bipush 18, 2) := by decide +kernel
theorem dX12_washes_46 : decode cX12_washes 46 = .ok (.iload 4, 2) := by decide +kernel
theorem dX12_washes_48 : decode cX12_washes 48 = .ok (.iadd, 1) := by decide +kernel
theorem dX12_washes_49 : decode cX12_washes 49 = .ok (.iaload, 1) := by decide +kernel
theorem dX12_washes_50 : decode cX12_washes 50 = .ok (.iconst 1, 1) := by decide +kernel
theorem dX12_washes_51 : decode cX12_washes 51 = .ok (.isub, 1) := by decide +kernel
theorem dX12_washes_52 : decode cX12_washes 52 = .ok (.istore 6, 2) := by decide +kernel
theorem dX12_washes_54 : decode cX12_washes 54 = .ok (.iload 6, 2) := by decide +kernel
theorem dX12_washes_56 : decode cX12_washes 56 = .ok (.ifCond .lt 57, 3) := by decide +kernel
theorem dX12_washes_59 : decode cX12_washes 59 = .ok (.aload_n 0, 1) := by decide +kernel
theorem dX12_washes_60 : decode cX12_washes 60 = .ok (.iconst 0, 1) := by decide +kernel
theorem dX12_washes_61 : decode cX12_washes 61 = .ok (.iload 4, 2) := by decide +kernel
theorem dX12_washes_63 : decode cX12_washes 63 = .ok (.invokevirtual 287, 3) := by decide +kernel
theorem dX12_washes_66 : decode cX12_washes 66 = .ok (.ifCond .eq 47, 3) := by decide +kernel
theorem dX12_washes_69 : decode cX12_washes 69 = .ok (.aload_n 0, 1) := by decide +kernel
theorem dX12_washes_70 : decode cX12_washes 70 = .ok (.iconst 0, 1) := by decide +kernel
theorem dX12_washes_71 : decode cX12_washes 71 = .ok (.iload 4, 2) := by decide +kernel
theorem dX12_washes_73 : decode cX12_washes 73 = .ok (.iload 6, 2) := by decide +kernel
theorem dX12_washes_75 : decode cX12_washes 75 = .ok (.invokevirtual 300, 3) := by decide +kernel
theorem dX12_washes_78 : decode cX12_washes 78 = .ok (.istore 7, 2) := by decide +kernel
theorem dX12_washes_80 : decode cX12_washes 80 = .ok (.iload 7, 2) := by decide +kernel
theorem dX12_washes_82 : decode cX12_washes 82 = .ok (.invokestatic 321, 3) := by decide +kernel
theorem dX12_washes_85 : decode cX12_washes 85 = .ok (.iload_n 1, 1) := by decide +kernel
theorem dX12_washes_86 : decode cX12_washes 86 = .ok (.if_icmp .ne 17, 3) := by decide +kernel
theorem dX12_washes_89 : decode cX12_washes 89 = .ok (.iload 7, 2) := by decide +kernel
theorem dX12_washes_91 : decode cX12_washes 91 = .ok (.invokestatic 312, 3) := by decide +kernel
theorem dX12_washes_94 : decode cX12_washes 94 = .ok (.iload_n 2, 1) := by decide +kernel
theorem dX12_washes_95 : decode cX12_washes 95 = .ok (.if_icmp .ne 8, 3) := by decide +kernel
theorem dX12_washes_98 : decode cX12_washes 98 = .ok (.iload 6, 2) := by decide +kernel
theorem dX12_washes_100 : decode cX12_washes 100 = .ok (.goto 5, 3) := by decide +kernel
theorem dX12_washes_103 : decode cX12_washes 103 = .ok (.iload 5, 2) := by decide +kernel
theorem dX12_washes_105 : decode cX12_washes 105 = .ok (.istore 5, 2) := by decide +kernel
theorem dX12_washes_107 : decode cX12_washes 107 = .ok (.iinc 6 (-1), 3) := by decide +kernel
theorem dX12_washes_110 : decode cX12_washes 110 = .ok (.goto (-56), 3) := by decide +kernel
theorem dX12_washes_113 : decode cX12_washes 113 = .ok (.iload_n 3, 1) := by decide +kernel
theorem dX12_washes_114 : decode cX12_washes 114 = .ok (.iload 5, 2) := by decide +kernel
theorem dX12_washes_116 : decode cX12_washes 116 = .ok (.ifCond .ge 7, 3) := by decide +kernel
theorem dX12_washes_119 : decode cX12_washes 119 = .ok (.iconst 0, 1) := by decide +kernel
theorem dX12_washes_120 : decode cX12_washes 120 = .ok (.goto 16, 3) := by decide +kernel
theorem dX12_washes_123 : decode cX12_washes 123 = .ok (.aload_n 0, 1) := by decide +kernel
theorem dX12_washes_124 : decode cX12_washes 124 = .ok (.getfield 119, 3) := by decide +kernel
theorem dX12_washes_127 : decode cX12_washes 127 = .ok (.bipush 18, 2) := by decide +kernel
theorem dX12_washes_129 : decode cX12_washes 129 = .ok (.iload 4, 2) := by decide +kernel
theorem dX12_washes_131 : decode cX12_washes 131 = .ok (.iadd, 1) := by decide +kernel
theorem dX12_washes_132 : decode cX12_washes 132 = .ok (.iaload, 1) := by decide +kernel
theorem dX12_washes_133 : decode cX12_washes 133 = .ok (.iload 5, 2) := by decide +kernel
theorem dX12_washes_135 : decode cX12_washes 135 = .ok (.isub, 1) := by decide +kernel
theorem dX12_washes_136 : decode cX12_washes 136 = .ok (.iadd, 1) := by decide +kernel
theorem dX12_washes_137 : decode cX12_washes 137 = .ok (.istore_n 3, 1) := by decide +kernel
theorem dX12_washes_138 : decode cX12_washes 138 = .ok (.iinc 4 1, 3) := by decide +kernel
theorem dX12_washes_141 : decode cX12_washes 141 = .ok (.goto (-113), 3) := by decide +kernel
theorem dX12_washes_144 : decode cX12_washes 144 = .ok (.iload_n 3, 1) := by decide +kernel
theorem dX12_washes_145 : decode cX12_washes 145 = .ok (.ireturn, 1) := by decide +kernel
theorem dX12_dark_0 : decode cX12_dark 0 = .ok (.aload_n 0, 1) := by decide +kernel
theorem dX12_dark_1 : decode cX12_dark 1 = .ok (.iconst 0, 1) := by decide +kernel
theorem dX12_dark_2 : decode cX12_dark 2 = .ok (.putfield 1, 3) := by decide +kernel
theorem dX12_dark_5 : decode cX12_dark 5 = .ok (.iload_n 1, 1) := by decide +kernel
theorem dX12_dark_6 : decode cX12_dark 6 = .ok (.iconst 1, 1) := by decide +kernel
theorem dX12_dark_7 : decode cX12_dark 7 = .ok (.sipush 1023, 3) := by decide +kernel
theorem dX12_dark_10 : decode cX12_dark 10 = .ok (.invokestatic 198, 3) := by decide +kernel
theorem dX12_dark_13 : decode cX12_dark 13 = .ok (.ifCond .ne 5, 3) := by decide +kernel
theorem dX12_dark_16 : decode cX12_dark 16 = .ok (.iconst (-1), 1) := by decide +kernel
theorem dX12_dark_17 : decode cX12_dark 17 = .ok (.ireturn, 1) := by decide +kernel
theorem dX12_dark_18 : decode cX12_dark 18 = .ok (.iconst (-1), 1) := by decide +kernel
theorem dX12_dark_19 : decode cX12_dark 19 = .ok (.istore_n 2, 1) := by decide +kernel
theorem dX12_dark_20 : decode cX12_dark 20 = .ok (.iconst 0, 1) := by decide +kernel
theorem dX12_dark_21 : decode cX12_dark 21 = .ok (.istore_n 3, 1) := by decide +kernel
theorem dX12_dark_22 : decode cX12_dark 22 = .ok (.iload_n 3, 1) := by decide +kernel
theorem dX12_dark_23 : decode cX12_dark 23 = .ok (.bipush 10, 2) := by decide +kernel
theorem dX12_dark_25 : decode cX12_dark 25 = .ok (.if_icmp .ge 79, 3) := by decide +kernel
theorem dX12_dark_28 : decode cX12_dark 28 = .ok (.aload_n 0, 1) := by decide +kernel
theorem dX12_dark_29 : decode cX12_dark 29 = .ok (.iconst 0, 1) := by decide +kernel
theorem dX12_dark_30 : decode cX12_dark 30 = .ok (.iload_n 3, 1) := by decide +kernel
theorem dX12_dark_31 : decode cX12_dark 31 = .ok (.invokevirtual 303, 3) := by decide +kernel
theorem dX12_dark_34 : decode cX12_dark 34 = .ok (.istore 4, 2) := by decide +kernel
theorem dX12_dark_36 : decode cX12_dark 36 = .ok (.iload_n 1, 1) := by decide +kernel
theorem dX12_dark_37 : decode cX12_dark 37 = .ok (.iload_n 3, 1) := by decide +kernel
theorem dX12_dark_38 : decode cX12_dark 38 = .ok (.ishr, 1) := by decide +kernel
theorem dX12_dark_39 : decode cX12_dark 39 = .ok (.iconst 1, 1) := by decide +kernel
theorem dX12_dark_40 : decode cX12_dark 40 = .ok (.iand, 1) := by decide +kernel
theorem dX12_dark_41 : decode cX12_dark 41 = .ok (.iconst 1, 1) := by decide +kernel
theorem dX12_dark_42 : decode cX12_dark 42 = .ok (.if_icmp .ne 41, 3) := by decide +kernel
theorem dX12_dark_45 : decode cX12_dark 45 = .ok (.iload_n 2, 1) := by decide +kernel
theorem dX12_dark_46 : decode cX12_dark 46 = .ok (.ifCond .lt 33, 3) := by decide +kernel
theorem dX12_dark_49 : decode cX12_dark 49 = .ok (.iload 4, 2) := by decide +kernel
theorem dX12_dark_51 : decode cX12_dark 51 = .ok (.invokestatic 374, 3) := by decide +kernel
theorem dX12_dark_54 : decode cX12_dark 54 = .ok (.iload_n 2, 1) := by decide +kernel
theorem dX12_dark_55 : decode cX12_dark 55 = .ok (.invokestatic 374, 3) := by decide +kernel
theorem dX12_dark_58 : decode cX12_dark 58 = .ok (.if_icmp .lt 21, 3) := by decide +kernel
theorem dX12_dark_61 : decode cX12_dark 61 = .ok (.iload 4, 2) := by decide +kernel
theorem dX12_dark_63 : decode cX12_dark 63 = .ok (.invokestatic 374, 3) := by decide +kernel
theorem dX12_dark_66 : decode cX12_dark 66 = .ok (.iload_n 2, 1) := by decide +kernel
theorem dX12_dark_67 : decode cX12_dark 67 = .ok (.invokestatic 374, 3) := by decide +kernel
theorem dX12_dark_70 : decode cX12_dark 70 = .ok (.if_icmp .ne 13, 3) := by decide +kernel
theorem dX12_dark_73 : decode cX12_dark 73 = .ok (.iload 4, 2) := by decide +kernel
theorem dX12_dark_75 : decode cX12_dark 75 = .ok (.iload_n 2, 1) := by decide +kernel
theorem dX12_dark_76 : decode cX12_dark 76 = .ok (.if_icmp .ge 7, 3) := by decide +kernel
theorem dX12_dark_79 : decode cX12_dark 79 = .ok (.iconst 1, 1) := by decide +kernel
theorem dX12_dark_80 : decode cX12_dark 80 = .ok (.goto 4, 3) := by decide +kernel
theorem dX12_dark_83 : decode cX12_dark 83 = .ok (.iconst 0, 1) := by decide +kernel
theorem dX12_dark_84 : decode cX12_dark 84 = .ok (.istore 5, 2) := by decide +kernel
theorem dX12_dark_86 : decode cX12_dark 86 = .ok (.iload 5, 2) := by decide +kernel
theorem dX12_dark_88 : decode cX12_dark 88 = .ok (.ifCond .eq 8, 3) := by decide +kernel
theorem dX12_dark_91 : decode cX12_dark 91 = .ok (.iload 4, 2) := by decide +kernel
theorem dX12_dark_93 : decode cX12_dark 93 = .ok (.goto 4, 3) := by decide +kernel
theorem dX12_dark_96 : decode cX12_dark 96 = .ok (.iload_n 2, 1) := by decide +kernel
theorem dX12_dark_97 : decode cX12_dark 97 = .ok (.istore_n 2, 1) := by decide +kernel
theorem dX12_dark_98 : decode cX12_dark 98 = .ok (.iinc 3 1, 3) := by decide +kernel
theorem dX12_dark_101 : decode cX12_dark 101 = .ok (.goto (-79), 3) := by decide +kernel
theorem dX12_dark_104 : decode cX12_dark 104 = .ok (.iload_n 2, 1) := by decide +kernel
theorem dX12_dark_105 : decode cX12_dark 105 = .ok (.ireturn, 1) := by decide +kernel
theorem dX12_say_0 : decode cX12_say 0 = .ok (.aload_n 0, 1) := by decide +kernel
theorem dX12_say_1 : decode cX12_say 1 = .ok (.iconst 0, 1) := by decide +kernel
theorem dX12_say_2 : decode cX12_say 2 = .ok (.putfield 1, 3) := by decide +kernel
theorem dX12_say_5 : decode cX12_say 5 = .ok (.aload_n 0, 1) := by decide +kernel
theorem dX12_say_6 : decode cX12_say 6 = .ok (.iload_n 1, 1) := by decide +kernel
theorem dX12_say_7 : decode cX12_say 7 = .ok (.invokevirtual 337, 3) := by decide +kernel
theorem dX12_say_10 : decode cX12_say 10 = .ok (.ifCond .ne 5, 3) := by decide +kernel
theorem dX12_say_13 : decode cX12_say 13 = .ok (.iconst 0, 1) := by decide +kernel
theorem dX12_say_14 : decode cX12_say 14 = .ok (.ireturn, 1) := by decide +kernel
theorem dX12_say_15 : decode cX12_say 15 = .ok (.aload_n 0, 1) := by decide +kernel
theorem dX12_say_16 : decode cX12_say 16 = .ok (.getfield 119, 3) := by decide +kernel
theorem dX12_say_19 : decode cX12_say 19 = .ok (.bipush 60, 2) := by decide +kernel
theorem dX12_say_21 : decode cX12_say 21 = .ok (.iload_n 1, 1) := by decide +kernel
theorem dX12_say_22 : decode cX12_say 22 = .ok (.iadd, 1) := by decide +kernel
theorem dX12_say_23 : decode cX12_say 23 = .ok (.iload_n 2, 1) := by decide +kernel
theorem dX12_say_24 : decode cX12_say 24 = .ok (.ifCond .eq 7, 3) := by decide +kernel
theorem dX12_say_27 : decode cX12_say 27 = .ok (.iconst 1, 1) := by decide +kernel
theorem dX12_say_28 : decode cX12_say 28 = .ok (.goto 4, 3) := by decide +kernel
theorem dX12_say_31 : decode cX12_say 31 = .ok (.iconst 0, 1) := by decide +kernel
theorem dX12_say_32 : decode cX12_say 32 = .ok (.iastore, 1) := by decide +kernel
theorem dX12_say_33 : decode cX12_say 33 = .ok (.iconst 1, 1) := by decide +kernel
theorem dX12_say_34 : decode cX12_say 34 = .ok (.ireturn, 1) := by decide +kernel
theorem dX12_cellsNow_0 : decode cX12_cellsNow 0 = .ok (.iconst 0, 1) := by decide +kernel
theorem dX12_cellsNow_1 : decode cX12_cellsNow 1 = .ok (.istore_n 1, 1) := by decide +kernel
theorem dX12_cellsNow_2 : decode cX12_cellsNow 2 = .ok (.iconst 0, 1) := by decide +kernel
theorem dX12_cellsNow_3 : decode cX12_cellsNow 3 = .ok (.istore_n 2, 1) := by decide +kernel
theorem dX12_cellsNow_4 : decode cX12_cellsNow 4 = .ok (.iload_n 2, 1) := by decide +kernel
theorem dX12_cellsNow_5 : decode cX12_cellsNow 5 = .ok (.bipush 10, 2) := by decide +kernel
theorem dX12_cellsNow_7 : decode cX12_cellsNow 7 = .ok (.if_icmp .ge 96, 3) := by decide +kernel
theorem dX12_cellsNow_10 : decode cX12_cellsNow 10 = .ok (.iconst 1, 1) := by decide +kernel
theorem dX12_cellsNow_11 : decode cX12_cellsNow 11 = .ok (.istore_n 3, 1) := by decide +kernel
theorem dX12_cellsNow_12 : decode cX12_cellsNow 12 = .ok (.iconst 0, 1) := by decide +kernel
theorem dX12_cellsNow_13 : decode cX12_cellsNow 13 = .ok (.istore 4, 2) := by decide +kernel
theorem dX12_cellsNow_15 : decode cX12_cellsNow 15 = .ok (.iload 4, 2) := by decide +kernel
theorem dX12_cellsNow_17 : decode cX12_cellsNow 17 = .ok (.aload_n 0, 1) := by decide +kernel
theorem dX12_cellsNow_18 : decode cX12_cellsNow 18 = .ok (.invokevirtual 278, 3) := by decide +kernel
theorem dX12_cellsNow_21 : decode cX12_cellsNow 21 = .ok (.if_icmp .ge 62, 3) := by decide +kernel
theorem dX12_cellsNow_24 : decode cX12_cellsNow 24 = .ok (.iload_n 3, 1) := by decide +kernel
theorem dX12_cellsNow_25 : decode cX12_cellsNow 25 = .ok (.ifCond .eq 50, 3) := by decide +kernel
theorem dX12_cellsNow_28 : decode cX12_cellsNow 28 = .ok (.aload_n 0, 1) := by decide +kernel
theorem dX12_cellsNow_29 : decode cX12_cellsNow 29 = .ok (.getfield 119, 3) := by decide +kernel
theorem dX12_cellsNow_32 : decode cX12_cellsNow 32 = .ok (.bipush 60, 2) := by decide +kernel
theorem dX12_cellsNow_34 : decode cX12_cellsNow 34 = .ok (.iload 4, 2) := by decide +kernel
theorem dX12_cellsNow_36 : decode cX12_cellsNow 36 = .ok (.iadd, 1) := by decide +kernel
theorem dX12_cellsNow_37 : decode cX12_cellsNow 37 = .ok (.iaload, 1) := by decide +kernel
theorem dX12_cellsNow_38 : decode cX12_cellsNow 38 = .ok (.ifCond .lt 33, 3) := by decide +kernel
theorem dX12_cellsNow_41 : decode cX12_cellsNow 41 = .ok (.aload_n 0, 1) := by decide +kernel
theorem dX12_cellsNow_42 : decode cX12_cellsNow 42 = .ok (.iconst 0, 1) := by decide +kernel
theorem dX12_cellsNow_43 : decode cX12_cellsNow 43 = .ok (.iload 4, 2) := by decide +kernel
theorem dX12_cellsNow_45 : decode cX12_cellsNow 45 = .ok (.iload_n 2, 1) := by decide +kernel
theorem dX12_cellsNow_46 : decode cX12_cellsNow 46 = .ok (.invokevirtual 297, 3) := by decide +kernel
theorem dX12_cellsNow_49 : decode cX12_cellsNow 49 = .ok (.aload_n 0, 1) := by decide +kernel
theorem dX12_cellsNow_50 : decode cX12_cellsNow 50 = .ok (.getfield 119, 3) := by decide +kernel
theorem dX12_cellsNow_53 : decode cX12_cellsNow 53 = .ok (.bipush 60, 2) := by decide +kernel
theorem dX12_cellsNow_55 : decode cX12_cellsNow 55 = .ok (.iload 4, 2) := by decide +kernel
theorem dX12_cellsNow_57 : decode cX12_cellsNow 57 = .ok (.iadd, 1) := by decide +kernel
theorem dX12_cellsNow_58 : decode cX12_cellsNow 58 = .ok (.iaload, 1) := by decide +kernel
theorem dX12_cellsNow_59 : decode cX12_cellsNow 59 = .ok (.iconst 1, 1) := by decide +kernel
theorem dX12_cellsNow_60 : decode cX12_cellsNow 60 = .ok (.if_icmp .ne 7, 3) := by decide +kernel
theorem dX12_cellsNow_63 : decode cX12_cellsNow 63 = .ok (.iconst 1, 1) := by decide +kernel
theorem dX12_cellsNow_64 : decode cX12_cellsNow 64 = .ok (.goto 4, 3) := by decide +kernel
theorem dX12_cellsNow_67 : decode cX12_cellsNow 67 = .ok (.iconst 0, 1) := by decide +kernel
theorem dX12_cellsNow_68 : decode cX12_cellsNow 68 = .ok (.if_icmp .ne 7, 3) := by decide +kernel
theorem dX12_cellsNow_71 : decode cX12_cellsNow 71 = .ok (.iconst 1, 1) := by decide +kernel
theorem dX12_cellsNow_72 : decode cX12_cellsNow 72 = .ok (.goto 4, 3) := by decide +kernel
theorem dX12_cellsNow_75 : decode cX12_cellsNow 75 = .ok (.iconst 0, 1) := by decide +kernel
theorem dX12_cellsNow_76 : decode cX12_cellsNow 76 = .ok (.istore_n 3, 1) := by decide +kernel
theorem dX12_cellsNow_77 : decode cX12_cellsNow 77 = .ok (.iinc 4 1, 3) := by decide +kernel
theorem dX12_cellsNow_80 : decode cX12_cellsNow 80 = .ok (.goto (-65), 3) := by decide +kernel
theorem dX12_cellsNow_83 : decode cX12_cellsNow 83 = .ok (.iload_n 1, 1) := by decide +kernel
theorem dX12_cellsNow_84 : decode cX12_cellsNow 84 = .ok (.iload_n 3, 1) := by decide +kernel
theorem dX12_cellsNow_85 : decode cX12_cellsNow 85 = .ok (.ifCond .eq 9, 3) := by decide +kernel
theorem dX12_cellsNow_88 : decode cX12_cellsNow 88 = .ok (.iconst 1, 1) := by decide +kernel
theorem dX12_cellsNow_89 : decode cX12_cellsNow 89 = .ok (.iload_n 2, 1) := by decide +kernel
theorem dX12_cellsNow_90 : decode cX12_cellsNow 90 = .ok (.ishl, 1) := by decide +kernel
theorem dX12_cellsNow_91 : decode cX12_cellsNow 91 = .ok (.goto 4, 3) := by decide +kernel
theorem dX12_cellsNow_94 : decode cX12_cellsNow 94 = .ok (.iconst 0, 1) := by decide +kernel
theorem dX12_cellsNow_95 : decode cX12_cellsNow 95 = .ok (.ior, 1) := by decide +kernel
theorem dX12_cellsNow_96 : decode cX12_cellsNow 96 = .ok (.istore_n 1, 1) := by decide +kernel
theorem dX12_cellsNow_97 : decode cX12_cellsNow 97 = .ok (.iinc 2 1, 3) := by decide +kernel
theorem dX12_cellsNow_100 : decode cX12_cellsNow 100 = .ok (.goto (-96), 3) := by decide +kernel
theorem dX12_cellsNow_103 : decode cX12_cellsNow 103 = .ok (.iload_n 1, 1) := by decide +kernel
theorem dX12_cellsNow_104 : decode cX12_cellsNow 104 = .ok (.ireturn, 1) := by decide +kernel
theorem dX12_where_0 : decode cX12_where 0 = .ok (.aload_n 0, 1) := by decide +kernel
theorem dX12_where_1 : decode cX12_where 1 = .ok (.iconst 0, 1) := by decide +kernel
theorem dX12_where_2 : decode cX12_where 2 = .ok (.putfield 1, 3) := by decide +kernel
theorem dX12_where_5 : decode cX12_where 5 = .ok (.aload_n 0, 1) := by decide +kernel
theorem dX12_where_6 : decode cX12_where 6 = .ok (.invokevirtual 377, 3) := by decide +kernel
theorem dX12_where_9 : decode cX12_where 9 = .ok (.ireturn, 1) := by decide +kernel
theorem dX12_ask_0 : decode cX12_ask 0 = .ok (.aload_n 0, 1) := by decide +kernel
theorem dX12_ask_1 : decode cX12_ask 1 = .ok (.iconst 0, 1) := by decide +kernel
theorem dX12_ask_2 : decode cX12_ask 2 = .ok (.putfield 1, 3) := by decide +kernel
theorem dX12_ask_5 : decode cX12_ask 5 = .ok (.aload_n 0, 1) := by decide +kernel
theorem dX12_ask_6 : decode cX12_ask 6 = .ok (.invokevirtual 377, 3) := by decide +kernel
theorem dX12_ask_9 : decode cX12_ask 9 = .ok (.istore_n 1, 1) := by decide +kernel
theorem dX12_ask_10 : decode cX12_ask 10 = .ok (.iconst (-1), 1) := by decide +kernel
theorem dX12_ask_11 : decode cX12_ask 11 = .ok (.istore_n 2, 1) := by decide +kernel
theorem dX12_ask_12 : decode cX12_ask 12 = .ok (.iload_n 1, 1) := by decide +kernel
theorem dX12_ask_13 : decode cX12_ask 13 = .ok (.invokestatic 374, 3) := by decide +kernel
theorem dX12_ask_16 : decode cX12_ask 16 = .ok (.istore_n 3, 1) := by decide +kernel
theorem dX12_ask_17 : decode cX12_ask 17 = .ok (.iconst 0, 1) := by decide +kernel
theorem dX12_ask_18 : decode cX12_ask 18 = .ok (.istore 4, 2) := by decide +kernel
theorem dX12_ask_20 : decode cX12_ask 20 = .ok (.iload 4, 2) := by decide +kernel
theorem dX12_ask_22 : decode cX12_ask 22 = .ok (.aload_n 0, 1) := by decide +kernel
theorem dX12_ask_23 : decode cX12_ask 23 = .ok (.invokevirtual 278, 3) := by decide +kernel
theorem dX12_ask_26 : decode cX12_ask 26 = .ok (.if_icmp .ge 99, 3) := by decide +kernel
theorem dX12_ask_29 : decode cX12_ask 29 = .ok (.iload_n 1, 1) := by decide +kernel
theorem dX12_ask_30 : decode cX12_ask 30 = .ok (.aload_n 0, 1) := by decide +kernel
theorem dX12_ask_31 : decode cX12_ask 31 = .ok (.iconst 0, 1) := by decide +kernel
theorem dX12_ask_32 : decode cX12_ask 32 = .ok (.iload 4, 2) := by decide +kernel
theorem dX12_ask_34 : decode cX12_ask 34 = .ok (.invokevirtual 294, 3) := by decide +kernel
theorem dX12_ask_37 : decode cX12_ask 37 = .ok (.iand, 1) := by decide +kernel
theorem dX12_ask_38 : decode cX12_ask 38 = .ok (.invokestatic 374, 3) := by decide +kernel
theorem dX12_ask_41 : decode cX12_ask 41 = .ok (.istore 5, 2) := by decide +kernel
theorem dX12_ask_43 : decode cX12_ask 43 = .ok (.iload 5, 2) := by decide +kernel
theorem dX12_ask_45 : decode cX12_ask 45 = .ok (.iload_n 1, 1) := by decide +kernel
theorem dX12_ask_46 : decode cX12_ask 46 = .ok (.invokestatic 374, 3) := by decide +kernel
theorem dX12_ask_49 : decode cX12_ask 49 = .ok (.iload 5, 2) := by decide +kernel
theorem dX12_ask_51 : decode cX12_ask 51 = .ok (.isub, 1) := by decide +kernel
theorem dX12_ask_52 : decode cX12_ask 52 = .ok (.if_icmp .le 8, 3) := by decide +kernel
theorem dX12_ask_55 : decode cX12_ask 55 = .ok (.iload 5, 2) := by decide +kernel
theorem dX12_ask_57 : decode cX12_ask 57 = .ok (.goto 10, 3) := by decide +kernel
theorem dX12_ask_60 : decode cX12_ask 60 = .ok (.iload_n 1, 1) := by decide +kernel
theorem dX12_ask_61 : decode cX12_ask 61 = .ok (.invokestatic 374, 3) := by decide +kernel
theorem dX12_ask_64 : decode cX12_ask 64 = .ok (.iload 5, 2) := by decide +kernel
theorem dX12_ask_66 : decode cX12_ask 66 = .ok (.isub, 1) := by decide +kernel
theorem dX12_ask_67 : decode cX12_ask 67 = .ok (.istore 6, 2) := by decide +kernel
theorem dX12_ask_69 : decode cX12_ask 69 = .ok (.aload_n 0, 1) := by decide +kernel
theorem dX12_ask_70 : decode cX12_ask 70 = .ok (.getfield 119, 3) := by decide +kernel
theorem dX12_ask_73 : decode cX12_ask 73 = .ok (.bipush 60, 2) := by decide +kernel
theorem dX12_ask_75 : decode cX12_ask 75 = .ok (.iload 4, 2) := by decide +kernel
theorem dX12_ask_77 : decode cX12_ask 77 = .ok (.iadd, 1) := by decide +kernel
theorem dX12_ask_78 : decode cX12_ask 78 = .ok (.iaload, 1) := by decide +kernel
theorem dX12_ask_79 : decode cX12_ask 79 = .ok (.ifCond .ge 13, 3) := by decide +kernel
theorem dX12_ask_82 : decode cX12_ask 82 = .ok (.iload 6, 2) := by decide +kernel
theorem dX12_ask_84 : decode cX12_ask 84 = .ok (.iload_n 3, 1) := by decide +kernel
theorem dX12_ask_85 : decode cX12_ask 85 = .ok (.if_icmp .ge 7, 3) := by decide +kernel
theorem dX12_ask_88 : decode cX12_ask 88 = .ok (.iconst 1, 1) := by decide +kernel
theorem dX12_ask_89 : decode cX12_ask 89 = .ok (.goto 4, 3) := by decide +kernel
theorem dX12_ask_92 : decode cX12_ask 92 = .ok (.iconst 0, 1) := by decide +kernel
theorem dX12_ask_93 : decode cX12_ask 93 = .ok (.istore 7, 2) := by decide +kernel
theorem dX12_ask_95 : decode cX12_ask 95 = .ok (.iload 7, 2) := by decide +kernel
theorem dX12_ask_97 : decode cX12_ask 97 = .ok (.ifCond .eq 8, 3) := by decide +kernel
theorem dX12_ask_100 : decode cX12_ask 100 = .ok (.iload 4, 2) := by decide +kernel
theorem dX12_ask_102 : decode cX12_ask 102 = .ok (.goto 4, 3) := by decide +kernel
theorem dX12_ask_105 : decode cX12_ask 105 = .ok (.iload_n 2, 1) := by decide +kernel
theorem dX12_ask_106 : decode cX12_ask 106 = .ok (.istore_n 2, 1) := by decide +kernel
theorem dX12_ask_107 : decode cX12_ask 107 = .ok (.iload 7, 2) := by decide +kernel
theorem dX12_ask_109 : decode cX12_ask 109 = .ok (.ifCond .eq 8, 3) := by decide +kernel
theorem dX12_ask_112 : decode cX12_ask 112 = .ok (.iload 6, 2) := by decide +kernel
theorem dX12_ask_114 : decode cX12_ask 114 = .ok (.goto 4, 3) := by decide +kernel
theorem dX12_ask_117 : decode cX12_ask 117 = .ok (.iload_n 3, 1) := by decide +kernel
theorem dX12_ask_118 : decode cX12_ask 118 = .ok (.istore_n 3, 1) := by decide +kernel
theorem dX12_ask_119 : decode cX12_ask 119 = .ok (.iinc 4 1, 3) := by decide +kernel
theorem dX12_ask_122 : decode cX12_ask 122 = .ok (.goto (-102), 3) := by decide +kernel
theorem dX12_ask_125 : decode cX12_ask 125 = .ok (.iload_n 2, 1) := by decide +kernel
theorem dX12_ask_126 : decode cX12_ask 126 = .ok (.ireturn, 1) := by decide +kernel
theorem dX12_peopleIn_0 : decode cX12_peopleIn 0 = .ok (.iconst 0, 1) := by decide +kernel
theorem dX12_peopleIn_1 : decode cX12_peopleIn 1 = .ok (.istore_n 3, 1) := by decide +kernel
theorem dX12_peopleIn_2 : decode cX12_peopleIn 2 = .ok (.iconst 0, 1) := by decide +kernel
theorem dX12_peopleIn_3 : decode cX12_peopleIn 3 = .ok (.istore 4, 2) := by decide +kernel
theorem dX12_peopleIn_5 : decode cX12_peopleIn 5 = .ok (.iload 4, 2) := by decide +kernel
theorem dX12_peopleIn_7 : decode cX12_peopleIn 7 = .ok (.aload_n 0, 1) := by decide +kernel
theorem dX12_peopleIn_8 : decode cX12_peopleIn 8 = .ok (.invokevirtual 265, 3) := by decide +kernel
theorem dX12_peopleIn_11 : decode cX12_peopleIn 11 = .ok (.if_icmp .ge 38, 3) := by decide +kernel
theorem dX12_peopleIn_14 : decode cX12_peopleIn 14 = .ok (.iload_n 3, 1) := by decide +kernel
theorem dX12_peopleIn_15 : decode cX12_peopleIn 15 = .ok (.aload_n 0, 1) := by decide +kernel
theorem dX12_peopleIn_16 : decode cX12_peopleIn 16 = .ok (.getfield 119, 3) := by decide +kernel
theorem dX12_peopleIn_19 : decode cX12_peopleIn 19 = .ok (.iconst 1, 1) := by decide +kernel
theorem dX12_peopleIn_20 : decode cX12_peopleIn 20 = .ok (.iload 4, 2) := by decide +kernel
theorem dX12_peopleIn_22 : decode cX12_peopleIn 22 = .ok (.iadd, 1) := by decide +kernel
theorem dX12_peopleIn_23 : decode cX12_peopleIn 23 = .ok (.iaload, 1) := by decide +kernel
theorem dX12_peopleIn_24 : decode cX12_peopleIn 24 = .ok (.iload_n 1, 1) := by decide +kernel
theorem dX12_peopleIn_25 : decode cX12_peopleIn 25 = .ok (.iload_n 1, 1) := by decide +kernel
theorem dX12_peopleIn_26 : decode cX12_peopleIn 26 = .ok (.iload_n 2, 1) := by decide +kernel
theorem dX12_peopleIn_27 : decode cX12_peopleIn 27 = .ok (.iadd, 1) := by decide +kernel
theorem dX12_peopleIn_28 : decode cX12_peopleIn 28 = .ok (.iconst 1, 1) := by decide +kernel
theorem dX12_peopleIn_29 : decode cX12_peopleIn 29 = .ok (.isub, 1) := by decide +kernel
theorem dX12_peopleIn_30 : decode cX12_peopleIn 30 = .ok (.invokestatic 198, 3) := by decide +kernel
theorem dX12_peopleIn_33 : decode cX12_peopleIn 33 = .ok (.ifCond .eq 7, 3) := by decide +kernel
theorem dX12_peopleIn_36 : decode cX12_peopleIn 36 = .ok (.iconst 1, 1) := by decide +kernel
theorem dX12_peopleIn_37 : decode cX12_peopleIn 37 = .ok (.goto 4, 3) := by decide +kernel
theorem dX12_peopleIn_40 : decode cX12_peopleIn 40 = .ok (.iconst 0, 1) := by decide +kernel
theorem dX12_peopleIn_41 : decode cX12_peopleIn 41 = .ok (.iadd, 1) := by decide +kernel
theorem dX12_peopleIn_42 : decode cX12_peopleIn 42 = .ok (.istore_n 3, 1) := by decide +kernel
theorem dX12_peopleIn_43 : decode cX12_peopleIn 43 = .ok (.iinc 4 1, 3) := by decide +kernel
theorem dX12_peopleIn_46 : decode cX12_peopleIn 46 = .ok (.goto (-41), 3) := by decide +kernel
theorem dX12_peopleIn_49 : decode cX12_peopleIn 49 = .ok (.iload_n 3, 1) := by decide +kernel
theorem dX12_peopleIn_50 : decode cX12_peopleIn 50 = .ok (.ireturn, 1) := by decide +kernel
theorem dX12_glass_0 : decode cX12_glass 0 = .ok (.aload_n 0, 1) := by decide +kernel
theorem dX12_glass_1 : decode cX12_glass 1 = .ok (.iconst 0, 1) := by decide +kernel
theorem dX12_glass_2 : decode cX12_glass 2 = .ok (.putfield 1, 3) := by decide +kernel
theorem dX12_glass_5 : decode cX12_glass 5 = .ok (.iload_n 1, 1) := by decide +kernel
theorem dX12_glass_6 : decode cX12_glass 6 = .ok (.iconst 1, 1) := by decide +kernel
theorem dX12_glass_7 : decode cX12_glass 7 = .ok (.bipush 10, 2) := by decide +kernel
theorem dX12_glass_9 : decode cX12_glass 9 = .ok (.invokestatic 198, 3) := by decide +kernel
theorem dX12_glass_12 : decode cX12_glass 12 = .ok (.ifCond .ne 5, 3) := by decide +kernel
theorem dX12_glass_15 : decode cX12_glass 15 = .ok (.iconst (-1), 1) := by decide +kernel
theorem dX12_glass_16 : decode cX12_glass 16 = .ok (.ireturn, 1) := by decide +kernel
theorem dX12_glass_17 : decode cX12_glass 17 = .ok (.iconst 0, 1) := by decide +kernel
theorem dX12_glass_18 : decode cX12_glass 18 = .ok (.istore_n 2, 1) := by decide +kernel
theorem dX12_glass_19 : decode cX12_glass 19 = .ok (.iconst 1, 1) := by decide +kernel
theorem dX12_glass_20 : decode cX12_glass 20 = .ok (.istore_n 3, 1) := by decide +kernel
theorem dX12_glass_21 : decode cX12_glass 21 = .ok (.iload_n 3, 1) := by decide +kernel
theorem dX12_glass_22 : decode cX12_glass 22 = .ok (.iload_n 1, 1) := by decide +kernel
theorem dX12_glass_23 : decode cX12_glass 23 = .ok (.iadd, 1) := by decide +kernel
theorem dX12_glass_24 : decode cX12_glass 24 = .ok (.bipush 10, 2) := by decide +kernel
theorem dX12_glass_26 : decode cX12_glass 26 = .ok (.if_icmp .gt 30, 3) := by decide +kernel
theorem dX12_glass_29 : decode cX12_glass 29 = .ok (.aload_n 0, 1) := by decide +kernel
theorem dX12_glass_30 : decode cX12_glass 30 = .ok (.iload_n 3, 1) := by decide +kernel
theorem dX12_glass_31 : decode cX12_glass 31 = .ok (.iload_n 1, 1) := by decide +kernel
theorem dX12_glass_32 : decode cX12_glass 32 = .ok (.invokevirtual 380, 3) := by decide +kernel
theorem dX12_glass_35 : decode cX12_glass 35 = .ok (.aload_n 0, 1) := by decide +kernel
theorem dX12_glass_36 : decode cX12_glass 36 = .ok (.iload_n 2, 1) := by decide +kernel
theorem dX12_glass_37 : decode cX12_glass 37 = .ok (.iload_n 1, 1) := by decide +kernel
theorem dX12_glass_38 : decode cX12_glass 38 = .ok (.invokevirtual 380, 3) := by decide +kernel
theorem dX12_glass_41 : decode cX12_glass 41 = .ok (.if_icmp .le 7, 3) := by decide +kernel
theorem dX12_glass_44 : decode cX12_glass 44 = .ok (.iload_n 3, 1) := by decide +kernel
theorem dX12_glass_45 : decode cX12_glass 45 = .ok (.goto 4, 3) := by decide +kernel
theorem dX12_glass_48 : decode cX12_glass 48 = .ok (.iload_n 2, 1) := by decide +kernel
theorem dX12_glass_49 : decode cX12_glass 49 = .ok (.istore_n 2, 1) := by decide +kernel
theorem dX12_glass_50 : decode cX12_glass 50 = .ok (.iinc 3 1, 3) := by decide +kernel
theorem dX12_glass_53 : decode cX12_glass 53 = .ok (.goto (-32), 3) := by decide +kernel
theorem dX12_glass_56 : decode cX12_glass 56 = .ok (.iload_n 2, 1) := by decide +kernel
theorem dX12_glass_57 : decode cX12_glass 57 = .ok (.ireturn, 1) := by decide +kernel
theorem dX12_seen_0 : decode cX12_seen 0 = .ok (.aload_n 0, 1) := by decide +kernel
theorem dX12_seen_1 : decode cX12_seen 1 = .ok (.iconst 0, 1) := by decide +kernel
theorem dX12_seen_2 : decode cX12_seen 2 = .ok (.putfield 1, 3) := by decide +kernel
theorem dX12_seen_5 : decode cX12_seen 5 = .ok (.aload_n 0, 1) := by decide +kernel
theorem dX12_seen_6 : decode cX12_seen 6 = .ok (.iload_n 1, 1) := by decide +kernel
theorem dX12_seen_7 : decode cX12_seen 7 = .ok (.invokevirtual 343, 3) := by decide +kernel
theorem dX12_seen_10 : decode cX12_seen 10 = .ok (.ifCond .eq 19, 3) := by decide +kernel
theorem dX12_seen_13 : decode cX12_seen 13 = .ok (.aload_n 0, 1) := by decide +kernel
theorem dX12_seen_14 : decode cX12_seen 14 = .ok (.iconst 0, 1) := by decide +kernel
theorem dX12_seen_15 : decode cX12_seen 15 = .ok (.aload_n 0, 1) := by decide +kernel
theorem dX12_seen_16 : decode cX12_seen 16 = .ok (.getfield 119, 3) := by decide +kernel
theorem dX12_seen_19 : decode cX12_seen 19 = .ok (.iconst 1, 1) := by decide +kernel
theorem dX12_seen_20 : decode cX12_seen 20 = .ok (.iload_n 1, 1) := by decide +kernel
theorem dX12_seen_21 : decode cX12_seen 21 = .ok (.iadd, 1) := by decide +kernel
theorem dX12_seen_22 : decode cX12_seen 22 = .ok (.iaload, 1) := by decide +kernel
theorem dX12_seen_23 : decode cX12_seen 23 = .ok (.invokevirtual 303, 3) := by decide +kernel
theorem dX12_seen_26 : decode cX12_seen 26 = .ok (.goto 4, 3) := by decide +kernel
theorem dX12_seen_29 : decode cX12_seen 29 = .ok (.iconst (-1), 1) := by decide +kernel
theorem dX12_seen_30 : decode cX12_seen 30 = .ok (.ireturn, 1) := by decide +kernel
theorem dX12_eyes_0 : decode cX12_eyes 0 = .ok (.aload_n 0, 1) := by decide +kernel
theorem dX12_eyes_1 : decode cX12_eyes 1 = .ok (.iconst 0, 1) := by decide +kernel
theorem dX12_eyes_2 : decode cX12_eyes 2 = .ok (.putfield 1, 3) := by decide +kernel
theorem dX12_eyes_5 : decode cX12_eyes 5 = .ok (.iconst 0, 1) := by decide +kernel
theorem dX12_eyes_6 : decode cX12_eyes 6 = .ok (.istore_n 1, 1) := by decide +kernel
theorem dX12_eyes_7 : decode cX12_eyes 7 = .ok (.iconst 1, 1) := by decide +kernel
theorem dX12_eyes_8 : decode cX12_eyes 8 = .ok (.istore_n 2, 1) := by decide +kernel
theorem dX12_eyes_9 : decode cX12_eyes 9 = .ok (.iload_n 2, 1) := by decide +kernel
theorem dX12_eyes_10 : decode cX12_eyes 10 = .ok (.bipush 10, 2) := by decide +kernel
theorem dX12_eyes_12 : decode cX12_eyes 12 = .ok (.if_icmp .ge 36, 3) := by decide +kernel
theorem dX12_eyes_15 : decode cX12_eyes 15 = .ok (.aload_n 0, 1) := by decide +kernel
theorem dX12_eyes_16 : decode cX12_eyes 16 = .ok (.iconst 0, 1) := by decide +kernel
theorem dX12_eyes_17 : decode cX12_eyes 17 = .ok (.iload_n 2, 1) := by decide +kernel
theorem dX12_eyes_18 : decode cX12_eyes 18 = .ok (.invokevirtual 303, 3) := by decide +kernel
theorem dX12_eyes_21 : decode cX12_eyes 21 = .ok (.invokestatic 374, 3) := by decide +kernel
theorem dX12_eyes_24 : decode cX12_eyes 24 = .ok (.aload_n 0, 1) := by decide +kernel
theorem dX12_eyes_25 : decode cX12_eyes 25 = .ok (.iconst 0, 1) := by decide +kernel
theorem dX12_eyes_26 : decode cX12_eyes 26 = .ok (.iload_n 1, 1) := by decide +kernel
theorem dX12_eyes_27 : decode cX12_eyes 27 = .ok (.invokevirtual 303, 3) := by decide +kernel
theorem dX12_eyes_30 : decode cX12_eyes 30 = .ok (.invokestatic 374, 3) := by decide +kernel
theorem dX12_eyes_33 : decode cX12_eyes 33 = .ok (.if_icmp .le 7, 3) := by decide +kernel
theorem dX12_eyes_36 : decode cX12_eyes 36 = .ok (.iload_n 2, 1) := by decide +kernel
theorem dX12_eyes_37 : decode cX12_eyes 37 = .ok (.goto 4, 3) := by decide +kernel
theorem dX12_eyes_40 : decode cX12_eyes 40 = .ok (.iload_n 1, 1) := by decide +kernel
theorem dX12_eyes_41 : decode cX12_eyes 41 = .ok (.istore_n 1, 1) := by decide +kernel
theorem dX12_eyes_42 : decode cX12_eyes 42 = .ok (.iinc 2 1, 3) := by decide +kernel
theorem dX12_eyes_45 : decode cX12_eyes 45 = .ok (.goto (-36), 3) := by decide +kernel
theorem dX12_eyes_48 : decode cX12_eyes 48 = .ok (.iload_n 1, 1) := by decide +kernel
theorem dX12_eyes_49 : decode cX12_eyes 49 = .ok (.ireturn, 1) := by decide +kernel
theorem dX12_blind_0 : decode cX12_blind 0 = .ok (.aload_n 0, 1) := by decide +kernel
theorem dX12_blind_1 : decode cX12_blind 1 = .ok (.iconst 0, 1) := by decide +kernel
theorem dX12_blind_2 : decode cX12_blind 2 = .ok (.putfield 1, 3) := by decide +kernel
theorem dX12_blind_5 : decode cX12_blind 5 = .ok (.iconst 0, 1) := by decide +kernel
theorem dX12_blind_6 : decode cX12_blind 6 = .ok (.istore_n 1, 1) := by decide +kernel
theorem dX12_blind_7 : decode cX12_blind 7 = .ok (.iconst 0, 1) := by decide +kernel
theorem dX12_blind_8 : decode cX12_blind 8 = .ok (.istore_n 2, 1) := by decide +kernel
theorem dX12_blind_9 : decode cX12_blind 9 = .ok (.iload_n 2, 1) := by decide +kernel
theorem dX12_blind_10 : decode cX12_blind 10 = .ok (.bipush 10, 2) := by decide +kernel
theorem dX12_blind_12 : decode cX12_blind 12 = .ok (.if_icmp .ge 28, 3) := by decide +kernel
theorem dX12_blind_15 : decode cX12_blind 15 = .ok (.iload_n 1, 1) := by decide +kernel
theorem dX12_blind_16 : decode cX12_blind 16 = .ok (.aload_n 0, 1) := by decide +kernel
theorem dX12_blind_17 : decode cX12_blind 17 = .ok (.iconst 0, 1) := by decide +kernel
theorem dX12_blind_18 : decode cX12_blind 18 = .ok (.iload_n 2, 1) := by decide +kernel
theorem dX12_blind_19 : decode cX12_blind 19 = .ok (.invokevirtual 303, 3) := by decide +kernel
theorem dX12_blind_22 : decode cX12_blind 22 = .ok (.ifCond .ne 9, 3) := by decide +kernel
theorem dX12_blind_25 : decode cX12_blind 25 = .ok (.iconst 1, 1) := by decide +kernel
theorem dX12_blind_26 : decode cX12_blind 26 = .ok (.iload_n 2, 1) := by decide +kernel
theorem dX12_blind_27 : decode cX12_blind 27 = .ok (.ishl, 1) := by decide +kernel
theorem dX12_blind_28 : decode cX12_blind 28 = .ok (.goto 4, 3) := by decide +kernel
theorem dX12_blind_31 : decode cX12_blind 31 = .ok (.iconst 0, 1) := by decide +kernel
theorem dX12_blind_32 : decode cX12_blind 32 = .ok (.ior, 1) := by decide +kernel
theorem dX12_blind_33 : decode cX12_blind 33 = .ok (.istore_n 1, 1) := by decide +kernel
theorem dX12_blind_34 : decode cX12_blind 34 = .ok (.iinc 2 1, 3) := by decide +kernel
theorem dX12_blind_37 : decode cX12_blind 37 = .ok (.goto (-28), 3) := by decide +kernel
theorem dX12_blind_40 : decode cX12_blind 40 = .ok (.iload_n 1, 1) := by decide +kernel
theorem dX12_blind_41 : decode cX12_blind 41 = .ok (.ireturn, 1) := by decide +kernel
theorem dX12_likeIn_0 : decode cX12_likeIn 0 = .ok (.iconst 0, 1) := by decide +kernel
theorem dX12_likeIn_1 : decode cX12_likeIn 1 = .ok (.istore_n 3, 1) := by decide +kernel
theorem dX12_likeIn_2 : decode cX12_likeIn 2 = .ok (.iconst 0, 1) := by decide +kernel
theorem dX12_likeIn_3 : decode cX12_likeIn 3 = .ok (.istore 4, 2) := by decide +kernel
theorem dX12_likeIn_5 : decode cX12_likeIn 5 = .ok (.iload 4, 2) := by decide +kernel
theorem dX12_likeIn_7 : decode cX12_likeIn 7 = .ok (.aload_n 0, 1) := by decide +kernel
theorem dX12_likeIn_8 : decode cX12_likeIn 8 = .ok (.getfield 119, 3) := by decide +kernel
theorem dX12_likeIn_11 : decode cX12_likeIn 11 = .ok (.bipush 18, 2) := by decide +kernel
theorem dX12_likeIn_13 : decode cX12_likeIn 13 = .ok (.iload_n 1, 1) := by decide +kernel
theorem dX12_likeIn_14 : decode cX12_likeIn 14 = .ok (.iadd, 1) := by decide +kernel
theorem dX12_likeIn_15 : decode cX12_likeIn 15 = .ok (.iaload, 1) := by decide +kernel
theorem dX12_likeIn_16 : decode cX12_likeIn 16 = .ok (.if_icmp .ge 37, 3) := by decide +kernel
theorem dX12_likeIn_19 : decode cX12_likeIn 19 = .ok (.iload_n 3, 1) := by decide +kernel
theorem dX12_likeIn_20 : decode cX12_likeIn 20 = .ok (.aload_n 0, 1) := by decide +kernel
theorem dX12_likeIn_21 : decode cX12_likeIn 21 = .ok (.iconst 0, 1) := by decide +kernel
theorem dX12_likeIn_22 : decode cX12_likeIn 22 = .ok (.iload_n 1, 1) := by decide +kernel
theorem dX12_likeIn_23 : decode cX12_likeIn 23 = .ok (.iload 4, 2) := by decide +kernel
theorem dX12_likeIn_25 : decode cX12_likeIn 25 = .ok (.invokevirtual 300, 3) := by decide +kernel
theorem dX12_likeIn_28 : decode cX12_likeIn 28 = .ok (.sipush 1023, 3) := by decide +kernel
theorem dX12_likeIn_31 : decode cX12_likeIn 31 = .ok (.iand, 1) := by decide +kernel
theorem dX12_likeIn_32 : decode cX12_likeIn 32 = .ok (.iload_n 2, 1) := by decide +kernel
theorem dX12_likeIn_33 : decode cX12_likeIn 33 = .ok (.sipush 1023, 3) := by decide +kernel
theorem dX12_likeIn_36 : decode cX12_likeIn 36 = .ok (.iand, 1) := by decide +kernel
theorem dX12_likeIn_37 : decode cX12_likeIn 37 = .ok (.if_icmp .ne 7, 3) := by decide +kernel
theorem dX12_likeIn_40 : decode cX12_likeIn 40 = .ok (.iconst 1, 1) := by decide +kernel
theorem dX12_likeIn_41 : decode cX12_likeIn 41 = .ok (.goto 4, 3) := by decide +kernel
theorem dX12_likeIn_44 : decode cX12_likeIn 44 = .ok (.iconst 0, 1) := by decide +kernel
theorem dX12_likeIn_45 : decode cX12_likeIn 45 = .ok (.iadd, 1) := by decide +kernel
theorem dX12_likeIn_46 : decode cX12_likeIn 46 = .ok (.istore_n 3, 1) := by decide +kernel
theorem dX12_likeIn_47 : decode cX12_likeIn 47 = .ok (.iinc 4 1, 3) := by decide +kernel
theorem dX12_likeIn_50 : decode cX12_likeIn 50 = .ok (.goto (-45), 3) := by decide +kernel
theorem dX12_likeIn_53 : decode cX12_likeIn 53 = .ok (.iload_n 3, 1) := by decide +kernel
theorem dX12_likeIn_54 : decode cX12_likeIn 54 = .ok (.ireturn, 1) := by decide +kernel
theorem dX12_twin_0 : decode cX12_twin 0 = .ok (.aload_n 0, 1) := by decide +kernel
theorem dX12_twin_1 : decode cX12_twin 1 = .ok (.iconst 0, 1) := by decide +kernel
theorem dX12_twin_2 : decode cX12_twin 2 = .ok (.putfield 1, 3) := by decide +kernel
theorem dX12_twin_5 : decode cX12_twin 5 = .ok (.aload_n 0, 1) := by decide +kernel
theorem dX12_twin_6 : decode cX12_twin 6 = .ok (.iload_n 1, 1) := by decide +kernel
theorem dX12_twin_7 : decode cX12_twin 7 = .ok (.invokevirtual 337, 3) := by decide +kernel
theorem dX12_twin_10 : decode cX12_twin 10 = .ok (.ifCond .eq 16, 3) := by decide +kernel
theorem dX12_twin_13 : decode cX12_twin 13 = .ok (.aload_n 0, 1) := by decide +kernel
theorem dX12_twin_14 : decode cX12_twin 14 = .ok (.iload_n 2, 1) := by decide +kernel
theorem dX12_twin_15 : decode cX12_twin 15 = .ok (.invokevirtual 337, 3) := by decide +kernel
theorem dX12_twin_18 : decode cX12_twin 18 = .ok (.ifCond .eq 8, 3) := by decide +kernel
theorem dX12_twin_21 : decode cX12_twin 21 = .ok (.iload_n 1, 1) := by decide +kernel
theorem dX12_twin_22 : decode cX12_twin 22 = .ok (.iload_n 2, 1) := by decide +kernel
theorem dX12_twin_23 : decode cX12_twin 23 = .ok (.if_icmp .ne 5, 3) := by decide +kernel
theorem dX12_twin_26 : decode cX12_twin 26 = .ok (.iconst (-1), 1) := by decide +kernel
theorem dX12_twin_27 : decode cX12_twin 27 = .ok (.ireturn, 1) := by decide +kernel
theorem dX12_twin_28 : decode cX12_twin 28 = .ok (.iconst 0, 1) := by decide +kernel
theorem dX12_twin_29 : decode cX12_twin 29 = .ok (.istore_n 3, 1) := by decide +kernel
theorem dX12_twin_30 : decode cX12_twin 30 = .ok (.iconst 0, 1) := by decide +kernel
theorem dX12_twin_31 : decode cX12_twin 31 = .ok (.istore 4, 2) := by decide +kernel
theorem dX12_twin_33 : decode cX12_twin 33 = .ok (.iload 4, 2) := by decide +kernel
theorem dX12_twin_35 : decode cX12_twin 35 = .ok (.aload_n 0, 1) := by decide +kernel
theorem dX12_twin_36 : decode cX12_twin 36 = .ok (.getfield 119, 3) := by decide +kernel
theorem dX12_twin_39 : decode cX12_twin 39 = .ok (.bipush 18, 2) := by decide +kernel
theorem dX12_twin_41 : decode cX12_twin 41 = .ok (.iload_n 1, 1) := by decide +kernel
theorem dX12_twin_42 : decode cX12_twin 42 = .ok (.iadd, 1) := by decide +kernel
theorem dX12_twin_43 : decode cX12_twin 43 = .ok (.iaload, 1) := by decide +kernel
theorem dX12_twin_44 : decode cX12_twin 44 = .ok (.if_icmp .ge 113, 3) := by decide +kernel
theorem dX12_twin_47 : decode cX12_twin 47 = .ok (.aload_n 0, 1) := by decide +kernel
theorem dX12_twin_48 : decode cX12_twin 48 = .ok (.iconst 0, 1) := by decide +kernel
theorem dX12_twin_49 : decode cX12_twin 49 = .ok (.iload_n 1, 1) := by decide +kernel
theorem dX12_twin_50 : decode cX12_twin 50 = .ok (.iload 4, 2) := by decide +kernel
theorem dX12_twin_52 : decode cX12_twin 52 = .ok (.invokevirtual 300, 3) := by decide +kernel
theorem dX12_twin_55 : decode cX12_twin 55 = .ok (.istore 5, 2) := by decide +kernel
theorem dX12_twin_57 : decode cX12_twin 57 = .ok (.iconst 0, 1) := by decide +kernel
theorem dX12_twin_58 : decode cX12_twin 58 = .ok (.istore 6, 2) := by decide +kernel
theorem dX12_twin_60 : decode cX12_twin 60 = .ok (.iconst 0, 1) := by decide +kernel
theorem dX12_twin_61 : decode cX12_twin 61 = .ok (.istore 7, 2) := by decide +kernel
theorem dX12_twin_63 : decode cX12_twin 63 = .ok (.iload 7, 2) := by decide +kernel
theorem dX12_twin_65 : decode cX12_twin 65 = .ok (.iload 4, 2) := by decide +kernel
theorem dX12_twin_67 : decode cX12_twin 67 = .ok (.if_icmp .ge 40, 3) := by decide +kernel
theorem dX12_twin_70 : decode cX12_twin 70 = .ok (.iload 6, 2) := by decide +kernel
theorem dX12_twin_72 : decode cX12_twin 72 = .ok (.aload_n 0, 1) := by decide +kernel
theorem dX12_twin_73 : decode cX12_twin 73 = .ok (.iconst 0, 1) := by decide +kernel
theorem dX12_twin_74 : decode cX12_twin 74 = .ok (.iload_n 1, 1) := by decide +kernel
theorem dX12_twin_75 : decode cX12_twin 75 = .ok (.iload 7, 2) := by decide +kernel
theorem dX12_twin_77 : decode cX12_twin 77 = .ok (.invokevirtual 300, 3) := by decide +kernel
theorem dX12_twin_80 : decode cX12_twin 80 = .ok (.sipush 1023, 3) := by decide +kernel
theorem dX12_twin_83 : decode cX12_twin 83 = .ok (.iand, 1) := by decide +kernel
theorem dX12_twin_84 : decode cX12_twin 84 = .ok (.iload 5, 2) := by decide +kernel
theorem dX12_twin_86 : decode cX12_twin 86 = .ok (.sipush 1023, 3) := by decide +kernel
theorem dX12_twin_89 : decode cX12_twin 89 = .ok (.iand, 1) := by decide +kernel
theorem dX12_twin_90 : decode cX12_twin 90 = .ok (.if_icmp .ne 7, 3) := by decide +kernel
theorem dX12_twin_93 : decode cX12_twin 93 = .ok (.iconst 1, 1) := by decide +kernel
theorem dX12_twin_94 : decode cX12_twin 94 = .ok (.goto 4, 3) := by decide +kernel
theorem dX12_twin_97 : decode cX12_twin 97 = .ok (.iconst 0, 1) := by decide +kernel
theorem dX12_twin_98 : decode cX12_twin 98 = .ok (.iadd, 1) := by decide +kernel
theorem dX12_twin_99 : decode cX12_twin 99 = .ok (.istore 6, 2) := by decide +kernel
theorem dX12_twin_101 : decode cX12_twin 101 = .ok (.iinc 7 1, 3) := by decide +kernel
theorem dX12_twin_104 : decode cX12_twin 104 = .ok (.goto (-41), 3) := by decide +kernel
theorem dX12_twin_107 : decode cX12_twin 107 = .ok (.aload_n 0, 1) := by decide +kernel
theorem dX12_twin_108 : decode cX12_twin 108 = .ok (.iload_n 1, 1) := by decide +kernel
theorem dX12_twin_109 : decode cX12_twin 109 = .ok (.iload 5, 2) := by decide +kernel
theorem dX12_twin_111 : decode cX12_twin 111 = .ok (.invokevirtual 383, 3) := by decide +kernel
theorem dX12_twin_114 : decode cX12_twin 114 = .ok (.istore 7, 2) := by decide +kernel
theorem dX12_twin_116 : decode cX12_twin 116 = .ok (.aload_n 0, 1) := by decide +kernel
theorem dX12_twin_117 : decode cX12_twin 117 = .ok (.iload_n 2, 1) := by decide +kernel
theorem dX12_twin_118 : decode cX12_twin 118 = .ok (.iload 5, 2) := by decide +kernel
theorem dX12_twin_120 : decode cX12_twin 120 = .ok (.invokevirtual 383, 3) := by decide +kernel
theorem dX12_twin_123 : decode cX12_twin 123 = .ok (.istore 8, 2) := by decide +kernel
theorem dX12_twin_125 : decode cX12_twin 125 = .ok (.iload_n 3, 1) := by decide +kernel
theorem dX12_twin_126 : decode cX12_twin 126 = .ok (.iload 6, 2) := by decide +kernel
theorem dX12_twin_128 : decode cX12_twin 128 = .ok (.ifCond .le 7, 3) := by decide +kernel
theorem dX12_twin_131 : decode cX12_twin 131 = .ok (.iconst 0, 1) := by decide +kernel
theorem dX12_twin_132 : decode cX12_twin 132 = .ok (.goto 17, 3) := by decide +kernel
theorem dX12_twin_135 : decode cX12_twin 135 = .ok (.iload 7, 2) := by decide +kernel
theorem dX12_twin_137 : decode cX12_twin 137 = .ok (.iload 8, 2) := by decide +kernel
theorem dX12_twin_139 : decode cX12_twin 139 = .ok (.if_icmp .ge 8, 3) := by decide +kernel
theorem dX12_twin_142 : decode cX12_twin 142 = .ok (.iload 7, 2) := by decide +kernel
theorem dX12_twin_144 : decode cX12_twin 144 = .ok (.goto 5, 3) := by decide +kernel
theorem dX12_twin_147 : decode cX12_twin 147 = .ok (.iload 8, 2) := by decide +kernel
theorem dX12_twin_149 : decode cX12_twin 149 = .ok (.iadd, 1) := by decide +kernel
theorem dX12_twin_150 : decode cX12_twin 150 = .ok (.istore_n 3, 1) := by decide +kernel
theorem dX12_twin_151 : decode cX12_twin 151 = .ok (.iinc 4 1, 3) := by decide +kernel
theorem dX12_twin_154 : decode cX12_twin 154 = .ok (.goto (-121), 3) := by decide +kernel
theorem dX12_twin_157 : decode cX12_twin 157 = .ok (.iload_n 3, 1) := by decide +kernel
theorem dX12_twin_158 : decode cX12_twin 158 = .ok (.ireturn, 1) := by decide +kernel
theorem dX12_run_0 : decode cX12_run 0 = .ok (.aload_n 0, 1) := by decide +kernel
theorem dX12_run_1 : decode cX12_run 1 = .ok (.iconst 0, 1) := by decide +kernel
theorem dX12_run_2 : decode cX12_run 2 = .ok (.putfield 1, 3) := by decide +kernel
theorem dX12_run_5 : decode cX12_run 5 = .ok (.aload_n 0, 1) := by decide +kernel
theorem dX12_run_6 : decode cX12_run 6 = .ok (.iload_n 1, 1) := by decide +kernel
theorem dX12_run_7 : decode cX12_run 7 = .ok (.invokevirtual 337, 3) := by decide +kernel
theorem dX12_run_10 : decode cX12_run 10 = .ok (.ifCond .ne 5, 3) := by decide +kernel
theorem dX12_run_13 : decode cX12_run 13 = .ok (.iconst (-1), 1) := by decide +kernel
theorem dX12_run_14 : decode cX12_run 14 = .ok (.ireturn, 1) := by decide +kernel
theorem dX12_run_15 : decode cX12_run 15 = .ok (.aload_n 0, 1) := by decide +kernel
theorem dX12_run_16 : decode cX12_run 16 = .ok (.iconst 0, 1) := by decide +kernel
theorem dX12_run_17 : decode cX12_run 17 = .ok (.sipush 1386, 3) := by decide +kernel
theorem dX12_run_20 : decode cX12_run 20 = .ok (.bipush 60, 2) := by decide +kernel
theorem dX12_run_22 : decode cX12_run 22 = .ok (.invokevirtual 275, 3) := by decide +kernel
theorem dX12_run_25 : decode cX12_run 25 = .ok (.iconst 0, 1) := by decide +kernel
theorem dX12_run_26 : decode cX12_run 26 = .ok (.istore_n 2, 1) := by decide +kernel
theorem dX12_run_27 : decode cX12_run 27 = .ok (.iload_n 2, 1) := by decide +kernel
theorem dX12_run_28 : decode cX12_run 28 = .ok (.bipush 100, 2) := by decide +kernel
theorem dX12_run_30 : decode cX12_run 30 = .ok (.if_icmp .ge 32, 3) := by decide +kernel
theorem dX12_run_33 : decode cX12_run 33 = .ok (.aload_n 0, 1) := by decide +kernel
theorem dX12_run_34 : decode cX12_run 34 = .ok (.getfield 119, 3) := by decide +kernel
theorem dX12_run_37 : decode cX12_run 37 = .ok (.sipush 1404, 3) := by decide +kernel
theorem dX12_run_40 : decode cX12_run 40 = .ok (.iload_n 1, 1) := by decide +kernel
theorem dX12_run_41 : decode cX12_run 41 = .ok (.iadd, 1) := by decide +kernel
theorem dX12_run_42 : decode cX12_run 42 = .ok (.iaload, 1) := by decide +kernel
theorem dX12_run_43 : decode cX12_run 43 = .ok (.ifCond .ne 5, 3) := by decide +kernel
theorem dX12_run_46 : decode cX12_run 46 = .ok (.iload_n 2, 1) := by decide +kernel
theorem dX12_run_47 : decode cX12_run 47 = .ok (.ireturn, 1) := by decide +kernel
theorem dX12_run_48 : decode cX12_run 48 = .ok (.aload_n 0, 1) := by decide +kernel
theorem dX12_run_49 : decode cX12_run 49 = .ok (.sipush 1386, 3) := by decide +kernel
theorem dX12_run_52 : decode cX12_run 52 = .ok (.invokevirtual 361, 3) := by decide +kernel
theorem dX12_run_55 : decode cX12_run 55 = .ok (.pop, 1) := by decide +kernel
theorem dX12_run_56 : decode cX12_run 56 = .ok (.iinc 2 1, 3) := by decide +kernel
theorem dX12_run_59 : decode cX12_run 59 = .ok (.goto (-32), 3) := by decide +kernel
theorem dX12_run_62 : decode cX12_run 62 = .ok (.iconst (-1), 1) := by decide +kernel
theorem dX12_run_63 : decode cX12_run 63 = .ok (.ireturn, 1) := by decide +kernel
theorem dX12_getsBy_0 : decode cX12_getsBy 0 = .ok (.iload_n 0, 1) := by decide +kernel
theorem dX12_getsBy_1 : decode cX12_getsBy 1 = .ok (.iconst 1, 1) := by decide +kernel
theorem dX12_getsBy_2 : decode cX12_getsBy 2 = .ok (.if_icmp .ne 16, 3) := by decide +kernel
theorem dX12_getsBy_5 : decode cX12_getsBy 5 = .ok (.iload_n 1, 1) := by decide +kernel
theorem dX12_getsBy_6 : decode cX12_getsBy 6 = .ok (.iconst 1, 1) := by decide +kernel
theorem dX12_getsBy_7 : decode cX12_getsBy 7 = .ok (.if_icmp .ne 7, 3) := by decide +kernel
theorem dX12_getsBy_10 : decode cX12_getsBy 10 = .ok (.iload_n 2, 1) := by decide +kernel
theorem dX12_getsBy_11 : decode cX12_getsBy 11 = .ok (.goto 18, 3) := by decide +kernel
theorem dX12_getsBy_14 : decode cX12_getsBy 14 = .ok (.iconst 0, 1) := by decide +kernel
theorem dX12_getsBy_15 : decode cX12_getsBy 15 = .ok (.goto 14, 3) := by decide +kernel
theorem dX12_getsBy_18 : decode cX12_getsBy 18 = .ok (.iload_n 1, 1) := by decide +kernel
theorem dX12_getsBy_19 : decode cX12_getsBy 19 = .ok (.iconst 1, 1) := by decide +kernel
theorem dX12_getsBy_20 : decode cX12_getsBy 20 = .ok (.if_icmp .ne 8, 3) := by decide +kernel
theorem dX12_getsBy_23 : decode cX12_getsBy 23 = .ok (.iload 4, 2) := by decide +kernel
theorem dX12_getsBy_25 : decode cX12_getsBy 25 = .ok (.goto 4, 3) := by decide +kernel
theorem dX12_getsBy_28 : decode cX12_getsBy 28 = .ok (.iload_n 3, 1) := by decide +kernel
theorem dX12_getsBy_29 : decode cX12_getsBy 29 = .ok (.ireturn, 1) := by decide +kernel
theorem dX12_rests_0 : decode cX12_rests 0 = .ok (.iload_n 1, 1) := by decide +kernel
theorem dX12_rests_1 : decode cX12_rests 1 = .ok (.iconst 0, 1) := by decide +kernel
theorem dX12_rests_2 : decode cX12_rests 2 = .ok (.bipush 9, 2) := by decide +kernel
theorem dX12_rests_4 : decode cX12_rests 4 = .ok (.invokestatic 198, 3) := by decide +kernel
theorem dX12_rests_7 : decode cX12_rests 7 = .ok (.ifCond .eq 33, 3) := by decide +kernel
theorem dX12_rests_10 : decode cX12_rests 10 = .ok (.iload_n 2, 1) := by decide +kernel
theorem dX12_rests_11 : decode cX12_rests 11 = .ok (.iconst 0, 1) := by decide +kernel
theorem dX12_rests_12 : decode cX12_rests 12 = .ok (.bipush 9, 2) := by decide +kernel
theorem dX12_rests_14 : decode cX12_rests 14 = .ok (.invokestatic 198, 3) := by decide +kernel
theorem dX12_rests_17 : decode cX12_rests 17 = .ok (.ifCond .eq 23, 3) := by decide +kernel
theorem dX12_rests_20 : decode cX12_rests 20 = .ok (.iload_n 3, 1) := by decide +kernel
theorem dX12_rests_21 : decode cX12_rests 21 = .ok (.iconst 0, 1) := by decide +kernel
theorem dX12_rests_22 : decode cX12_rests 22 = .ok (.bipush 9, 2) := by decide +kernel
theorem dX12_rests_24 : decode cX12_rests 24 = .ok (.invokestatic 198, 3) := by decide +kernel
theorem dX12_rests_27 : decode cX12_rests 27 = .ok (.ifCond .eq 13, 3) := by decide +kernel
theorem dX12_rests_30 : decode cX12_rests 30 = .ok (.iload 4, 2) := by decide +kernel
theorem dX12_rests_32 : decode cX12_rests 32 = .ok (.iconst (-1), 1) := by decide +kernel
theorem dX12_rests_33 : decode cX12_rests 33 = .ok (.if_icmp .lt 7, 3) := by decide +kernel
theorem dX12_rests_36 : decode cX12_rests 36 = .ok (.iconst 1, 1) := by decide +kernel
theorem dX12_rests_37 : decode cX12_rests 37 = .ok (.goto 4, 3) := by decide +kernel
theorem dX12_rests_40 : decode cX12_rests 40 = .ok (.iconst 0, 1) := by decide +kernel
theorem dX12_rests_41 : decode cX12_rests 41 = .ok (.istore 5, 2) := by decide +kernel
theorem dX12_rests_43 : decode cX12_rests 43 = .ok (.iconst 0, 1) := by decide +kernel
theorem dX12_rests_44 : decode cX12_rests 44 = .ok (.istore 6, 2) := by decide +kernel
theorem dX12_rests_46 : decode cX12_rests 46 = .ok (.iconst (-1), 1) := by decide +kernel
theorem dX12_rests_47 : decode cX12_rests 47 = .ok (.istore 7, 2) := by decide +kernel
theorem dX12_rests_49 : decode cX12_rests 49 = .ok (.iconst 0, 1) := by decide +kernel
theorem dX12_rests_50 : decode cX12_rests 50 = .ok (.istore 8, 2) := by decide +kernel
theorem dX12_rests_52 : decode cX12_rests 52 = .ok (.iload 8, 2) := by decide +kernel
theorem dX12_rests_54 : decode cX12_rests 54 = .ok (.iconst 4, 1) := by decide +kernel
theorem dX12_rests_55 : decode cX12_rests 55 = .ok (.if_icmp .ge 119, 3) := by decide +kernel
theorem dX12_rests_58 : decode cX12_rests 58 = .ok (.iload 5, 2) := by decide +kernel
theorem dX12_rests_60 : decode cX12_rests 60 = .ok (.ifCond .eq 114, 3) := by decide +kernel
theorem dX12_rests_63 : decode cX12_rests 63 = .ok (.iload 8, 2) := by decide +kernel
theorem dX12_rests_65 : decode cX12_rests 65 = .ok (.iconst 2, 1) := by decide +kernel
theorem dX12_rests_66 : decode cX12_rests 66 = .ok (.idiv, 1) := by decide +kernel
theorem dX12_rests_67 : decode cX12_rests 67 = .ok (.istore 9, 2) := by decide +kernel
theorem dX12_rests_69 : decode cX12_rests 69 = .ok (.iload 8, 2) := by decide +kernel
theorem dX12_rests_71 : decode cX12_rests 71 = .ok (.iconst 2, 1) := by decide +kernel
theorem dX12_rests_72 : decode cX12_rests 72 = .ok (.irem, 1) := by decide +kernel
theorem dX12_rests_73 : decode cX12_rests 73 = .ok (.istore 10, 2) := by decide +kernel
theorem dX12_rests_75 : decode cX12_rests 75 = .ok (.iconst 1, 1) := by decide +kernel
theorem dX12_rests_76 : decode cX12_rests 76 = .ok (.iload 9, 2) := by decide +kernel
theorem dX12_rests_78 : decode cX12_rests 78 = .ok (.isub, 1) := by decide +kernel
theorem dX12_rests_79 : decode cX12_rests 79 = .ok (.iload 10, 2) := by decide +kernel
theorem dX12_rests_81 : decode cX12_rests 81 = .ok (.iload_n 1, 1) := by decide +kernel
theorem dX12_rests_82 : decode cX12_rests 82 = .ok (.iload_n 2, 1) := by decide +kernel
theorem dX12_rests_83 : decode cX12_rests 83 = .ok (.iload_n 3, 1) := by decide +kernel
theorem dX12_rests_84 : decode cX12_rests 84 = .ok (.invokestatic 386, 3) := by decide +kernel
theorem dX12_rests_87 : decode cX12_rests 87 = .ok (.iload 9, 2) := by decide +kernel
theorem dX12_rests_89 : decode cX12_rests 89 = .ok (.iload 10, 2) := by decide +kernel
theorem dX12_rests_91 : decode cX12_rests 91 = .ok (.iload_n 1, 1) := by decide +kernel
theorem dX12_rests_92 : decode cX12_rests 92 = .ok (.iload_n 2, 1) := by decide +kernel
theorem dX12_rests_93 : decode cX12_rests 93 = .ok (.iload_n 3, 1) := by decide +kernel
theorem dX12_rests_94 : decode cX12_rests 94 = .ok (.invokestatic 386, 3) := by decide +kernel
theorem dX12_rests_97 : decode cX12_rests 97 = .ok (.if_icmp .gt 32, 3) := by decide +kernel
theorem dX12_rests_100 : decode cX12_rests 100 = .ok (.iconst 1, 1) := by decide +kernel
theorem dX12_rests_101 : decode cX12_rests 101 = .ok (.iload 10, 2) := by decide +kernel
theorem dX12_rests_103 : decode cX12_rests 103 = .ok (.isub, 1) := by decide +kernel
theorem dX12_rests_104 : decode cX12_rests 104 = .ok (.iload 9, 2) := by decide +kernel
theorem dX12_rests_106 : decode cX12_rests 106 = .ok (.iload_n 1, 1) := by decide +kernel
theorem dX12_rests_107 : decode cX12_rests 107 = .ok (.iload_n 2, 1) := by decide +kernel
theorem dX12_rests_108 : decode cX12_rests 108 = .ok (.iload_n 3, 1) := by decide +kernel
theorem dX12_rests_109 : decode cX12_rests 109 = .ok (.invokestatic 386, 3) := by decide +kernel
theorem dX12_rests_112 : decode cX12_rests 112 = .ok (.iload 10, 2) := by decide +kernel
theorem dX12_rests_114 : decode cX12_rests 114 = .ok (.iload 9, 2) := by decide +kernel
theorem dX12_rests_116 : decode cX12_rests 116 = .ok (.iload_n 1, 1) := by decide +kernel
theorem dX12_rests_117 : decode cX12_rests 117 = .ok (.iload_n 2, 1) := by decide +kernel
theorem dX12_rests_118 : decode cX12_rests 118 = .ok (.iload_n 3, 1) := by decide +kernel
theorem dX12_rests_119 : decode cX12_rests 119 = .ok (.invokestatic 386, 3) := by decide +kernel
theorem dX12_rests_122 : decode cX12_rests 122 = .ok (.if_icmp .gt 7, 3) := by decide +kernel
theorem dX12_rests_125 : decode cX12_rests 125 = .ok (.iconst 1, 1) := by decide +kernel
theorem dX12_rests_126 : decode cX12_rests 126 = .ok (.goto 4, 3) := by decide +kernel
theorem dX12_rests_129 : decode cX12_rests 129 = .ok (.iconst 0, 1) := by decide +kernel
theorem dX12_rests_130 : decode cX12_rests 130 = .ok (.istore 11, 2) := by decide +kernel
theorem dX12_rests_132 : decode cX12_rests 132 = .ok (.iload 11, 2) := by decide +kernel
theorem dX12_rests_134 : decode cX12_rests 134 = .ok (.ifCond .eq 15, 3) := by decide +kernel
theorem dX12_rests_137 : decode cX12_rests 137 = .ok (.iload 6, 2) := by decide +kernel
theorem dX12_rests_139 : decode cX12_rests 139 = .ok (.iload 4, 2) := by decide +kernel
theorem dX12_rests_141 : decode cX12_rests 141 = .ok (.if_icmp .ne 8, 3) := by decide +kernel
theorem dX12_rests_144 : decode cX12_rests 144 = .ok (.iload 8, 2) := by decide +kernel
theorem dX12_rests_146 : decode cX12_rests 146 = .ok (.goto 5, 3) := by decide +kernel
theorem dX12_rests_149 : decode cX12_rests 149 = .ok (.iload 7, 2) := by decide +kernel
theorem dX12_rests_151 : decode cX12_rests 151 = .ok (.istore 7, 2) := by decide +kernel
theorem dX12_rests_153 : decode cX12_rests 153 = .ok (.iload 6, 2) := by decide +kernel
theorem dX12_rests_155 : decode cX12_rests 155 = .ok (.iload 11, 2) := by decide +kernel
theorem dX12_rests_157 : decode cX12_rests 157 = .ok (.ifCond .eq 7, 3) := by decide +kernel
theorem dX12_rests_160 : decode cX12_rests 160 = .ok (.iconst 1, 1) := by decide +kernel
theorem dX12_rests_161 : decode cX12_rests 161 = .ok (.goto 4, 3) := by decide +kernel
theorem dX12_rests_164 : decode cX12_rests 164 = .ok (.iconst 0, 1) := by decide +kernel
theorem dX12_rests_165 : decode cX12_rests 165 = .ok (.iadd, 1) := by decide +kernel
theorem dX12_rests_166 : decode cX12_rests 166 = .ok (.istore 6, 2) := by decide +kernel
theorem dX12_rests_168 : decode cX12_rests 168 = .ok (.iinc 8 1, 3) := by decide +kernel
theorem dX12_rests_171 : decode cX12_rests 171 = .ok (.goto (-119), 3) := by decide +kernel
theorem dX12_rests_174 : decode cX12_rests 174 = .ok (.aload_n 0, 1) := by decide +kernel
theorem dX12_rests_175 : decode cX12_rests 175 = .ok (.iload 5, 2) := by decide +kernel
theorem dX12_rests_177 : decode cX12_rests 177 = .ok (.ifCond .eq 17, 3) := by decide +kernel
theorem dX12_rests_180 : decode cX12_rests 180 = .ok (.iload 4, 2) := by decide +kernel
theorem dX12_rests_182 : decode cX12_rests 182 = .ok (.ifCond .lt 8, 3) := by decide +kernel
theorem dX12_rests_185 : decode cX12_rests 185 = .ok (.iload 7, 2) := by decide +kernel
theorem dX12_rests_187 : decode cX12_rests 187 = .ok (.ifCond .lt 7, 3) := by decide +kernel
theorem dX12_rests_190 : decode cX12_rests 190 = .ok (.iconst 0, 1) := by decide +kernel
theorem dX12_rests_191 : decode cX12_rests 191 = .ok (.goto 4, 3) := by decide +kernel
theorem dX12_rests_194 : decode cX12_rests 194 = .ok (.iconst 1, 1) := by decide +kernel
theorem dX12_rests_195 : decode cX12_rests 195 = .ok (.putfield 1, 3) := by decide +kernel
theorem dX12_rests_198 : decode cX12_rests 198 = .ok (.aload_n 0, 1) := by decide +kernel
theorem dX12_rests_199 : decode cX12_rests 199 = .ok (.getfield 1, 3) := by decide +kernel
theorem dX12_rests_202 : decode cX12_rests 202 = .ok (.ifCond .le 7, 3) := by decide +kernel
theorem dX12_rests_205 : decode cX12_rests 205 = .ok (.iconst 0, 1) := by decide +kernel
theorem dX12_rests_206 : decode cX12_rests 206 = .ok (.goto 15, 3) := by decide +kernel
theorem dX12_rests_209 : decode cX12_rests 209 = .ok (.iload 4, 2) := by decide +kernel
theorem dX12_rests_211 : decode cX12_rests 211 = .ok (.ifCond .ge 8, 3) := by decide +kernel
theorem dX12_rests_214 : decode cX12_rests 214 = .ok (.iload 6, 2) := by decide +kernel
theorem dX12_rests_216 : decode cX12_rests 216 = .ok (.goto 5, 3) := by decide +kernel
theorem dX12_rests_219 : decode cX12_rests 219 = .ok (.iload 7, 2) := by decide +kernel
theorem dX12_rests_221 : decode cX12_rests 221 = .ok (.ireturn, 1) := by decide +kernel
theorem dX12_draw_0 : decode cX12_draw 0 = .ok (.aload_n 0, 1) := by decide +kernel
theorem dX12_draw_1 : decode cX12_draw 1 = .ok (.aload_n 0, 1) := by decide +kernel
theorem dX12_draw_2 : decode cX12_draw 2 = .ok (.getfield 390, 3) := by decide +kernel
theorem dX12_draw_5 : decode cX12_draw 5 = .ok (.ldc2_w 394, 3) := by decide +kernel
theorem dX12_draw_8 : decode cX12_draw 8 = .ok (.lmul, 1) := by decide +kernel
theorem dX12_draw_9 : decode cX12_draw 9 = .ok (.ldc2_w 396, 3) := by decide +kernel
theorem dX12_draw_12 : decode cX12_draw 12 = .ok (.ladd, 1) := by decide +kernel
theorem dX12_draw_13 : decode cX12_draw 13 = .ok (.ldc2_w 398, 3) := by decide +kernel
theorem dX12_draw_16 : decode cX12_draw 16 = .ok (.lrem, 1) := by decide +kernel
theorem dX12_draw_17 : decode cX12_draw 17 = .ok (.putfield 390, 3) := by decide +kernel
theorem dX12_draw_20 : decode cX12_draw 20 = .ok (.aload_n 0, 1) := by decide +kernel
theorem dX12_draw_21 : decode cX12_draw 21 = .ok (.getfield 390, 3) := by decide +kernel
theorem dX12_draw_24 : decode cX12_draw 24 = .ok (.ldc2_w 400, 3) := by decide +kernel
theorem dX12_draw_27 : decode cX12_draw 27 = .ok (.ldiv, 1) := by decide +kernel
theorem dX12_draw_28 : decode cX12_draw 28 = .ok (.iload_n 1, 1) := by decide +kernel
theorem dX12_draw_29 : decode cX12_draw 29 = .ok (.i2l, 1) := by decide +kernel
theorem dX12_draw_30 : decode cX12_draw 30 = .ok (.lrem, 1) := by decide +kernel
theorem dX12_draw_31 : decode cX12_draw 31 = .ok (.l2i, 1) := by decide +kernel
theorem dX12_draw_32 : decode cX12_draw 32 = .ok (.ireturn, 1) := by decide +kernel
theorem dX12_drawsPerson_0 : decode cX12_drawsPerson 0 = .ok (.aload_n 0, 1) := by decide +kernel
theorem dX12_drawsPerson_1 : decode cX12_drawsPerson 1 = .ok (.iconst 3, 1) := by decide +kernel
theorem dX12_drawsPerson_2 : decode cX12_drawsPerson 2 = .ok (.invokevirtual 402, 3) := by decide +kernel
theorem dX12_drawsPerson_5 : decode cX12_drawsPerson 5 = .ok (.istore_n 2, 1) := by decide +kernel
theorem dX12_drawsPerson_6 : decode cX12_drawsPerson 6 = .ok (.aload_n 0, 1) := by decide +kernel
theorem dX12_drawsPerson_7 : decode cX12_drawsPerson 7 = .ok (.getfield 119, 3) := by decide +kernel
theorem dX12_drawsPerson_10 : decode cX12_drawsPerson 10 = .ok (.sipush 1453, 3) := by decide +kernel
theorem dX12_drawsPerson_13 : decode cX12_drawsPerson 13 = .ok (.iload_n 1, 1) := by decide +kernel
theorem dX12_drawsPerson_14 : decode cX12_drawsPerson 14 = .ok (.iadd, 1) := by decide +kernel
theorem dX12_drawsPerson_15 : decode cX12_drawsPerson 15 = .ok (.iaload, 1) := by decide +kernel
theorem dX12_drawsPerson_16 : decode cX12_drawsPerson 16 = .ok (.istore_n 3, 1) := by decide +kernel
theorem dX12_drawsPerson_17 : decode cX12_drawsPerson 17 = .ok (.iload_n 2, 1) := by decide +kernel
theorem dX12_drawsPerson_18 : decode cX12_drawsPerson 18 = .ok (.iconst 2, 1) := by decide +kernel
theorem dX12_drawsPerson_19 : decode cX12_drawsPerson 19 = .ok (.if_icmp .ge 48, 3) := by decide +kernel
theorem dX12_drawsPerson_22 : decode cX12_drawsPerson 22 = .ok (.iload_n 2, 1) := by decide +kernel
theorem dX12_drawsPerson_23 : decode cX12_drawsPerson 23 = .ok (.ifCond .ne 9, 3) := by decide +kernel
theorem dX12_drawsPerson_26 : decode cX12_drawsPerson 26 = .ok (.iload_n 3, 1) := by decide +kernel
theorem dX12_drawsPerson_27 : decode cX12_drawsPerson 27 = .ok (.iconst 1, 1) := by decide +kernel
theorem dX12_drawsPerson_28 : decode cX12_drawsPerson 28 = .ok (.isub, 1) := by decide +kernel
theorem dX12_drawsPerson_29 : decode cX12_drawsPerson 29 = .ok (.goto 6, 3) := by decide +kernel
theorem dX12_drawsPerson_32 : decode cX12_drawsPerson 32 = .ok (.iload_n 3, 1) := by decide +kernel
theorem dX12_drawsPerson_33 : decode cX12_drawsPerson 33 = .ok (.iconst 1, 1) := by decide +kernel
theorem dX12_drawsPerson_34 : decode cX12_drawsPerson 34 = .ok (.iadd, 1) := by decide +kernel
theorem dX12_drawsPerson_35 : decode cX12_drawsPerson 35 = .ok (.istore 4, 2) := by decide +kernel
theorem dX12_drawsPerson_37 : decode cX12_drawsPerson 37 = .ok (.aload_n 0, 1) := by decide +kernel
theorem dX12_drawsPerson_38 : decode cX12_drawsPerson 38 = .ok (.getfield 119, 3) := by decide +kernel
theorem dX12_drawsPerson_41 : decode cX12_drawsPerson 41 = .ok (.sipush 1453, 3) := by decide +kernel
theorem dX12_drawsPerson_44 : decode cX12_drawsPerson 44 = .ok (.iload_n 1, 1) := by decide +kernel
theorem dX12_drawsPerson_45 : decode cX12_drawsPerson 45 = .ok (.iadd, 1) := by decide +kernel
theorem dX12_drawsPerson_46 : decode cX12_drawsPerson 46 = .ok (.iload 4, 2) := by decide +kernel
theorem dX12_drawsPerson_48 : decode cX12_drawsPerson 48 = .ok (.iconst 0, 1) := by decide +kernel
theorem dX12_drawsPerson_49 : decode cX12_drawsPerson 49 = .ok (.bipush 9, 2) := by decide +kernel
theorem dX12_drawsPerson_51 : decode cX12_drawsPerson 51 = .ok (.invokestatic 198, 3) := by decide +kernel
theorem dX12_drawsPerson_54 : decode cX12_drawsPerson 54 = .ok (.ifCond .eq 8, 3) := by decide +kernel
theorem dX12_drawsPerson_57 : decode cX12_drawsPerson 57 = .ok (.iload 4, 2) := by decide +kernel
theorem dX12_drawsPerson_59 : decode cX12_drawsPerson 59 = .ok (.goto 4, 3) := by decide +kernel
theorem dX12_drawsPerson_62 : decode cX12_drawsPerson 62 = .ok (.iload_n 3, 1) := by decide +kernel
theorem dX12_drawsPerson_63 : decode cX12_drawsPerson 63 = .ok (.iastore, 1) := by decide +kernel
theorem dX12_drawsPerson_64 : decode cX12_drawsPerson 64 = .ok (.goto 58, 3) := by decide +kernel
theorem dX12_drawsPerson_67 : decode cX12_drawsPerson 67 = .ok (.aload_n 0, 1) := by decide +kernel
theorem dX12_drawsPerson_68 : decode cX12_drawsPerson 68 = .ok (.invokevirtual 281, 3) := by decide +kernel
theorem dX12_drawsPerson_71 : decode cX12_drawsPerson 71 = .ok (.ifCond .le 51, 3) := by decide +kernel
theorem dX12_drawsPerson_74 : decode cX12_drawsPerson 74 = .ok (.aload_n 0, 1) := by decide +kernel
theorem dX12_drawsPerson_75 : decode cX12_drawsPerson 75 = .ok (.sipush 1452, 3) := by decide +kernel
theorem dX12_drawsPerson_78 : decode cX12_drawsPerson 78 = .ok (.iload_n 1, 1) := by decide +kernel
theorem dX12_drawsPerson_79 : decode cX12_drawsPerson 79 = .ok (.aload_n 0, 1) := by decide +kernel
theorem dX12_drawsPerson_80 : decode cX12_drawsPerson 80 = .ok (.aload_n 0, 1) := by decide +kernel
theorem dX12_drawsPerson_81 : decode cX12_drawsPerson 81 = .ok (.invokevirtual 281, 3) := by decide +kernel
theorem dX12_drawsPerson_84 : decode cX12_drawsPerson 84 = .ok (.invokevirtual 402, 3) := by decide +kernel
theorem dX12_drawsPerson_87 : decode cX12_drawsPerson 87 = .ok (.iload_n 3, 1) := by decide +kernel
theorem dX12_drawsPerson_88 : decode cX12_drawsPerson 88 = .ok (.invokevirtual 355, 3) := by decide +kernel
theorem dX12_drawsPerson_91 : decode cX12_drawsPerson 91 = .ok (.istore 4, 2) := by decide +kernel
theorem dX12_drawsPerson_93 : decode cX12_drawsPerson 93 = .ok (.aload_n 0, 1) := by decide +kernel
theorem dX12_drawsPerson_94 : decode cX12_drawsPerson 94 = .ok (.dup, 1) := by decide +kernel
theorem dX12_drawsPerson_95 : decode cX12_drawsPerson 95 = .ok (.getfield 405, 3) := by decide +kernel
theorem dX12_drawsPerson_98 : decode cX12_drawsPerson 98 = .ok (.iconst 1, 1) := by decide +kernel
theorem dX12_drawsPerson_99 : decode cX12_drawsPerson 99 = .ok (.iadd, 1) := by decide +kernel
theorem dX12_drawsPerson_100 : decode cX12_drawsPerson 100 = .ok (.putfield 405, 3) := by decide +kernel
theorem dX12_drawsPerson_103 : decode cX12_drawsPerson 103 = .ok (.aload_n 0, 1) := by decide +kernel
theorem dX12_drawsPerson_104 : decode cX12_drawsPerson 104 = .ok (.dup, 1) := by decide +kernel
theorem dX12_drawsPerson_105 : decode cX12_drawsPerson 105 = .ok (.getfield 408, 3) := by decide +kernel
theorem dX12_drawsPerson_108 : decode cX12_drawsPerson 108 = .ok (.iload 4, 2) := by decide +kernel
theorem dX12_drawsPerson_110 : decode cX12_drawsPerson 110 = .ok (.ifCond .ne 7, 3) := by decide +kernel
theorem dX12_drawsPerson_113 : decode cX12_drawsPerson 113 = .ok (.iconst 1, 1) := by decide +kernel
theorem dX12_drawsPerson_114 : decode cX12_drawsPerson 114 = .ok (.goto 4, 3) := by decide +kernel
theorem dX12_drawsPerson_117 : decode cX12_drawsPerson 117 = .ok (.iconst 0, 1) := by decide +kernel
theorem dX12_drawsPerson_118 : decode cX12_drawsPerson 118 = .ok (.iadd, 1) := by decide +kernel
theorem dX12_drawsPerson_119 : decode cX12_drawsPerson 119 = .ok (.putfield 408, 3) := by decide +kernel
theorem dX12_drawsPerson_122 : decode cX12_drawsPerson 122 = .ok (.return_, 1) := by decide +kernel
theorem dX12_years_0 : decode cX12_years 0 = .ok (.aload_n 0, 1) := by decide +kernel
theorem dX12_years_1 : decode cX12_years 1 = .ok (.iconst 0, 1) := by decide +kernel
theorem dX12_years_2 : decode cX12_years 2 = .ok (.putfield 1, 3) := by decide +kernel
theorem dX12_years_5 : decode cX12_years 5 = .ok (.iload_n 1, 1) := by decide +kernel
theorem dX12_years_6 : decode cX12_years 6 = .ok (.iconst 0, 1) := by decide +kernel
theorem dX12_years_7 : decode cX12_years 7 = .ok (.sipush 9999, 3) := by decide +kernel
theorem dX12_years_10 : decode cX12_years 10 = .ok (.invokestatic 198, 3) := by decide +kernel
theorem dX12_years_13 : decode cX12_years 13 = .ok (.ifCond .eq 22, 3) := by decide +kernel
theorem dX12_years_16 : decode cX12_years 16 = .ok (.iload_n 2, 1) := by decide +kernel
theorem dX12_years_17 : decode cX12_years 17 = .ok (.iconst 1, 1) := by decide +kernel
theorem dX12_years_18 : decode cX12_years 18 = .ok (.bipush 99, 2) := by decide +kernel
theorem dX12_years_20 : decode cX12_years 20 = .ok (.invokestatic 198, 3) := by decide +kernel
theorem dX12_years_23 : decode cX12_years 23 = .ok (.ifCond .eq 12, 3) := by decide +kernel
theorem dX12_years_26 : decode cX12_years 26 = .ok (.iload_n 3, 1) := by decide +kernel
theorem dX12_years_27 : decode cX12_years 27 = .ok (.iconst 0, 1) := by decide +kernel
theorem dX12_years_28 : decode cX12_years 28 = .ok (.iconst 2, 1) := by decide +kernel
theorem dX12_years_29 : decode cX12_years 29 = .ok (.invokestatic 198, 3) := by decide +kernel
theorem dX12_years_32 : decode cX12_years 32 = .ok (.ifCond .ne 5, 3) := by decide +kernel
theorem dX12_years_35 : decode cX12_years 35 = .ok (.iconst (-1), 1) := by decide +kernel
theorem dX12_years_36 : decode cX12_years 36 = .ok (.ireturn, 1) := by decide +kernel
theorem dX12_years_37 : decode cX12_years 37 = .ok (.aload_n 0, 1) := by decide +kernel
theorem dX12_years_38 : decode cX12_years 38 = .ok (.iconst 0, 1) := by decide +kernel
theorem dX12_years_39 : decode cX12_years 39 = .ok (.sipush 1452, 3) := by decide +kernel
theorem dX12_years_42 : decode cX12_years 42 = .ok (.bipush 60, 2) := by decide +kernel
theorem dX12_years_44 : decode cX12_years 44 = .ok (.invokevirtual 275, 3) := by decide +kernel
theorem dX12_years_47 : decode cX12_years 47 = .ok (.aload_n 0, 1) := by decide +kernel
theorem dX12_years_48 : decode cX12_years 48 = .ok (.iload_n 1, 1) := by decide +kernel
theorem dX12_years_49 : decode cX12_years 49 = .ok (.i2l, 1) := by decide +kernel
theorem dX12_years_50 : decode cX12_years 50 = .ok (.putfield 390, 3) := by decide +kernel
theorem dX12_years_53 : decode cX12_years 53 = .ok (.aload_n 0, 1) := by decide +kernel
theorem dX12_years_54 : decode cX12_years 54 = .ok (.iconst 0, 1) := by decide +kernel
theorem dX12_years_55 : decode cX12_years 55 = .ok (.putfield 405, 3) := by decide +kernel
theorem dX12_years_58 : decode cX12_years 58 = .ok (.aload_n 0, 1) := by decide +kernel
theorem dX12_years_59 : decode cX12_years 59 = .ok (.iconst 0, 1) := by decide +kernel
theorem dX12_years_60 : decode cX12_years 60 = .ok (.putfield 408, 3) := by decide +kernel
theorem dX12_years_63 : decode cX12_years 63 = .ok (.iconst 0, 1) := by decide +kernel
theorem dX12_years_64 : decode cX12_years 64 = .ok (.istore 4, 2) := by decide +kernel
theorem dX12_years_66 : decode cX12_years 66 = .ok (.iload 4, 2) := by decide +kernel
theorem dX12_years_68 : decode cX12_years 68 = .ok (.iload_n 2, 1) := by decide +kernel
theorem dX12_years_69 : decode cX12_years 69 = .ok (.if_icmp .ge 98, 3) := by decide +kernel
theorem dX12_years_72 : decode cX12_years 72 = .ok (.iconst 0, 1) := by decide +kernel
theorem dX12_years_73 : decode cX12_years 73 = .ok (.istore 5, 2) := by decide +kernel
theorem dX12_years_75 : decode cX12_years 75 = .ok (.iload 5, 2) := by decide +kernel
theorem dX12_years_77 : decode cX12_years 77 = .ok (.aload_n 0, 1) := by decide +kernel
theorem dX12_years_78 : decode cX12_years 78 = .ok (.invokevirtual 265, 3) := by decide +kernel
theorem dX12_years_81 : decode cX12_years 81 = .ok (.if_icmp .ge 15, 3) := by decide +kernel
theorem dX12_years_84 : decode cX12_years 84 = .ok (.aload_n 0, 1) := by decide +kernel
theorem dX12_years_85 : decode cX12_years 85 = .ok (.iload 5, 2) := by decide +kernel
theorem dX12_years_87 : decode cX12_years 87 = .ok (.invokevirtual 411, 3) := by decide +kernel
theorem dX12_years_90 : decode cX12_years 90 = .ok (.iinc 5 1, 3) := by decide +kernel
theorem dX12_years_93 : decode cX12_years 93 = .ok (.goto (-18), 3) := by decide +kernel
theorem dX12_years_96 : decode cX12_years 96 = .ok (.aload_n 0, 1) := by decide +kernel
theorem dX12_years_97 : decode cX12_years 97 = .ok (.invokevirtual 278, 3) := by decide +kernel
theorem dX12_years_100 : decode cX12_years 100 = .ok (.ifCond .le 53, 3) := by decide +kernel
theorem dX12_years_103 : decode cX12_years 103 = .ok (.aload_n 0, 1) := by decide +kernel
theorem dX12_years_104 : decode cX12_years 104 = .ok (.bipush 9, 2) := by decide +kernel
theorem dX12_years_106 : decode cX12_years 106 = .ok (.invokevirtual 402, 3) := by decide +kernel
theorem dX12_years_109 : decode cX12_years 109 = .ok (.ifCond .ne 44, 3) := by decide +kernel
theorem dX12_years_112 : decode cX12_years 112 = .ok (.aload_n 0, 1) := by decide +kernel
theorem dX12_years_113 : decode cX12_years 113 = .ok (.aload_n 0, 1) := by decide +kernel
theorem dX12_years_114 : decode cX12_years 114 = .ok (.invokevirtual 278, 3) := by decide +kernel
theorem dX12_years_117 : decode cX12_years 117 = .ok (.invokevirtual 402, 3) := by decide +kernel
theorem dX12_years_120 : decode cX12_years 120 = .ok (.istore 5, 2) := by decide +kernel
theorem dX12_years_122 : decode cX12_years 122 = .ok (.aload_n 0, 1) := by decide +kernel
theorem dX12_years_123 : decode cX12_years 123 = .ok (.getfield 119, 3) := by decide +kernel
theorem dX12_years_126 : decode cX12_years 126 = .ok (.sipush 1470, 3) := by decide +kernel
theorem dX12_years_129 : decode cX12_years 129 = .ok (.iload 5, 2) := by decide +kernel
theorem dX12_years_131 : decode cX12_years 131 = .ok (.iadd, 1) := by decide +kernel
theorem dX12_years_132 : decode cX12_years 132 = .ok (.dup2, 1) := by decide +kernel
theorem dX12_years_133 : decode cX12_years 133 = .ok (.iaload, 1) := by decide +kernel
theorem dX12_years_134 : decode cX12_years 134 = .ok (.aload_n 0, 1) := by decide +kernel
theorem dX12_years_135 : decode cX12_years 135 = .ok (.sipush 1452, 3) := by decide +kernel
theorem dX12_years_138 : decode cX12_years 138 = .ok (.iload 5, 2) := by decide +kernel
theorem dX12_years_140 : decode cX12_years 140 = .ok (.invokevirtual 358, 3) := by decide +kernel
theorem dX12_years_143 : decode cX12_years 143 = .ok (.ifCond .eq 7, 3) := by decide +kernel
theorem dX12_years_146 : decode cX12_years 146 = .ok (.iconst 1, 1) := by decide +kernel
theorem dX12_years_147 : decode cX12_years 147 = .ok (.goto 4, 3) := by decide +kernel
theorem dX12_years_150 : decode cX12_years 150 = .ok (.iconst 0, 1) := by decide +kernel
theorem dX12_years_151 : decode cX12_years 151 = .ok (.isub, 1) := by decide +kernel
theorem dX12_years_152 : decode cX12_years 152 = .ok (.iastore, 1) := by decide +kernel
theorem dX12_years_153 : decode cX12_years 153 = .ok (.aload_n 0, 1) := by decide +kernel
theorem dX12_years_154 : decode cX12_years 154 = .ok (.sipush 1452, 3) := by decide +kernel
theorem dX12_years_157 : decode cX12_years 157 = .ok (.invokevirtual 361, 3) := by decide +kernel
theorem dX12_years_160 : decode cX12_years 160 = .ok (.pop, 1) := by decide +kernel
theorem dX12_years_161 : decode cX12_years 161 = .ok (.iinc 4 1, 3) := by decide +kernel
theorem dX12_years_164 : decode cX12_years 164 = .ok (.goto (-98), 3) := by decide +kernel
theorem dX12_years_167 : decode cX12_years 167 = .ok (.iload_n 3, 1) := by decide +kernel
theorem dX12_years_168 : decode cX12_years 168 = .ok (.ifCond .ne 10, 3) := by decide +kernel
theorem dX12_years_171 : decode cX12_years 171 = .ok (.aload_n 0, 1) := by decide +kernel
theorem dX12_years_172 : decode cX12_years 172 = .ok (.getfield 405, 3) := by decide +kernel
theorem dX12_years_175 : decode cX12_years 175 = .ok (.goto 25, 3) := by decide +kernel
theorem dX12_years_178 : decode cX12_years 178 = .ok (.iload_n 3, 1) := by decide +kernel
theorem dX12_years_179 : decode cX12_years 179 = .ok (.iconst 1, 1) := by decide +kernel
theorem dX12_years_180 : decode cX12_years 180 = .ok (.if_icmp .ne 10, 3) := by decide +kernel
theorem dX12_years_183 : decode cX12_years 183 = .ok (.aload_n 0, 1) := by decide +kernel
theorem dX12_years_184 : decode cX12_years 184 = .ok (.getfield 408, 3) := by decide +kernel
theorem dX12_years_187 : decode cX12_years 187 = .ok (.goto 13, 3) := by decide +kernel
theorem dX12_years_190 : decode cX12_years 190 = .ok (.aload_n 0, 1) := by decide +kernel
theorem dX12_years_191 : decode cX12_years 191 = .ok (.sipush 1452, 3) := by decide +kernel
theorem dX12_years_194 : decode cX12_years 194 = .ok (.iconst (-1), 1) := by decide +kernel
theorem dX12_years_195 : decode cX12_years 195 = .ok (.bipush 6, 2) := by decide +kernel
theorem dX12_years_197 : decode cX12_years 197 = .ok (.invokevirtual 371, 3) := by decide +kernel
theorem dX12_years_200 : decode cX12_years 200 = .ok (.ireturn, 1) := by decide +kernel
theorem dX12_notch_0 : decode cX12_notch 0 = .ok (.aload_n 0, 1) := by decide +kernel
theorem dX12_notch_1 : decode cX12_notch 1 = .ok (.iconst 0, 1) := by decide +kernel
theorem dX12_notch_2 : decode cX12_notch 2 = .ok (.putfield 1, 3) := by decide +kernel
theorem dX12_notch_5 : decode cX12_notch 5 = .ok (.iload_n 1, 1) := by decide +kernel
theorem dX12_notch_6 : decode cX12_notch 6 = .ok (.iconst 0, 1) := by decide +kernel
theorem dX12_notch_7 : decode cX12_notch 7 = .ok (.iconst 3, 1) := by decide +kernel
theorem dX12_notch_8 : decode cX12_notch 8 = .ok (.invokestatic 198, 3) := by decide +kernel
theorem dX12_notch_11 : decode cX12_notch 11 = .ok (.ifCond .eq 16, 3) := by decide +kernel
theorem dX12_notch_14 : decode cX12_notch 14 = .ok (.iload_n 2, 1) := by decide +kernel
theorem dX12_notch_15 : decode cX12_notch 15 = .ok (.ifCond .eq 14, 3) := by decide +kernel
theorem dX12_notch_18 : decode cX12_notch 18 = .ok (.aload_n 0, 1) := by decide +kernel
theorem dX12_notch_19 : decode cX12_notch 19 = .ok (.getfield 122, 3) := by decide +kernel
theorem dX12_notch_22 : decode cX12_notch 22 = .ok (.iload_n 1, 1) := by decide +kernel
theorem dX12_notch_23 : decode cX12_notch 23 = .ok (.baload, 1) := by decide +kernel
theorem dX12_notch_24 : decode cX12_notch 24 = .ok (.ifCond .ne 5, 3) := by decide +kernel
theorem dX12_notch_27 : decode cX12_notch 27 = .ok (.iconst 0, 1) := by decide +kernel
theorem dX12_notch_28 : decode cX12_notch 28 = .ok (.ireturn, 1) := by decide +kernel
theorem dX12_notch_29 : decode cX12_notch 29 = .ok (.aload_n 0, 1) := by decide +kernel
theorem dX12_notch_30 : decode cX12_notch 30 = .ok (.getfield 122, 3) := by decide +kernel
theorem dX12_notch_33 : decode cX12_notch 33 = .ok (.iload_n 1, 1) := by decide +kernel
theorem dX12_notch_34 : decode cX12_notch 34 = .ok (.iconst 1, 1) := by decide +kernel
theorem dX12_notch_35 : decode cX12_notch 35 = .ok (.bastore, 1) := by decide +kernel
theorem dX12_notch_36 : decode cX12_notch 36 = .ok (.aload_n 0, 1) := by decide +kernel
theorem dX12_notch_37 : decode cX12_notch 37 = .ok (.iload_n 2, 1) := by decide +kernel
theorem dX12_notch_38 : decode cX12_notch 38 = .ok (.ifCond .eq 12, 3) := by decide +kernel
theorem dX12_notch_41 : decode cX12_notch 41 = .ok (.bipush 66, 2) := by decide +kernel
theorem dX12_notch_43 : decode cX12_notch 43 = .ok (.iconst 1, 1) := by decide +kernel
theorem dX12_notch_44 : decode cX12_notch 44 = .ok (.iload_n 1, 1) := by decide +kernel
theorem dX12_notch_45 : decode cX12_notch 45 = .ok (.iadd, 1) := by decide +kernel
theorem dX12_notch_46 : decode cX12_notch 46 = .ok (.imul, 1) := by decide +kernel
theorem dX12_notch_47 : decode cX12_notch 47 = .ok (.goto 4, 3) := by decide +kernel
theorem dX12_notch_50 : decode cX12_notch 50 = .ok (.iconst 0, 1) := by decide +kernel
theorem dX12_notch_51 : decode cX12_notch 51 = .ok (.iload_n 2, 1) := by decide +kernel
theorem dX12_notch_52 : decode cX12_notch 52 = .ok (.ifCond .eq 7, 3) := by decide +kernel
theorem dX12_notch_55 : decode cX12_notch 55 = .ok (.iconst 0, 1) := by decide +kernel
theorem dX12_notch_56 : decode cX12_notch 56 = .ok (.goto 9, 3) := by decide +kernel
theorem dX12_notch_59 : decode cX12_notch 59 = .ok (.bipush 66, 2) := by decide +kernel
theorem dX12_notch_61 : decode cX12_notch 61 = .ok (.iconst 1, 1) := by decide +kernel
theorem dX12_notch_62 : decode cX12_notch 62 = .ok (.iload_n 1, 1) := by decide +kernel
theorem dX12_notch_63 : decode cX12_notch 63 = .ok (.iadd, 1) := by decide +kernel
theorem dX12_notch_64 : decode cX12_notch 64 = .ok (.imul, 1) := by decide +kernel
theorem dX12_notch_65 : decode cX12_notch 65 = .ok (.bipush 66, 2) := by decide +kernel
theorem dX12_notch_67 : decode cX12_notch 67 = .ok (.invokevirtual 275, 3) := by decide +kernel
theorem dX12_notch_70 : decode cX12_notch 70 = .ok (.aload_n 0, 1) := by decide +kernel
theorem dX12_notch_71 : decode cX12_notch 71 = .ok (.iload_n 2, 1) := by decide +kernel
theorem dX12_notch_72 : decode cX12_notch 72 = .ok (.ifCond .eq 7, 3) := by decide +kernel
theorem dX12_notch_75 : decode cX12_notch 75 = .ok (.iconst 0, 1) := by decide +kernel
theorem dX12_notch_76 : decode cX12_notch 76 = .ok (.goto 7, 3) := by decide +kernel
theorem dX12_notch_79 : decode cX12_notch 79 = .ok (.aload_n 0, 1) := by decide +kernel
theorem dX12_notch_80 : decode cX12_notch 80 = .ok (.getfield 272, 3) := by decide +kernel
theorem dX12_notch_83 : decode cX12_notch 83 = .ok (.putfield 272, 3) := by decide +kernel
theorem dX12_notch_86 : decode cX12_notch 86 = .ok (.iconst 1, 1) := by decide +kernel
theorem dX12_notch_87 : decode cX12_notch 87 = .ok (.ireturn, 1) := by decide +kernel
theorem dX12_bitsOf_0 : decode cX12_bitsOf 0 = .ok (.iconst 0, 1) := by decide +kernel
theorem dX12_bitsOf_1 : decode cX12_bitsOf 1 = .ok (.istore_n 3, 1) := by decide +kernel
theorem dX12_bitsOf_2 : decode cX12_bitsOf 2 = .ok (.iconst 0, 1) := by decide +kernel
theorem dX12_bitsOf_3 : decode cX12_bitsOf 3 = .ok (.istore 4, 2) := by decide +kernel
theorem dX12_bitsOf_5 : decode cX12_bitsOf 5 = .ok (.iload 4, 2) := by decide +kernel
theorem dX12_bitsOf_7 : decode cX12_bitsOf 7 = .ok (.aload_n 0, 1) := by decide +kernel
theorem dX12_bitsOf_8 : decode cX12_bitsOf 8 = .ok (.invokevirtual 278, 3) := by decide +kernel
theorem dX12_bitsOf_11 : decode cX12_bitsOf 11 = .ok (.if_icmp .ge 33, 3) := by decide +kernel
theorem dX12_bitsOf_14 : decode cX12_bitsOf 14 = .ok (.iload_n 3, 1) := by decide +kernel
theorem dX12_bitsOf_15 : decode cX12_bitsOf 15 = .ok (.aload_n 0, 1) := by decide +kernel
theorem dX12_bitsOf_16 : decode cX12_bitsOf 16 = .ok (.getfield 119, 3) := by decide +kernel
theorem dX12_bitsOf_19 : decode cX12_bitsOf 19 = .ok (.iload_n 1, 1) := by decide +kernel
theorem dX12_bitsOf_20 : decode cX12_bitsOf 20 = .ok (.iload 4, 2) := by decide +kernel
theorem dX12_bitsOf_22 : decode cX12_bitsOf 22 = .ok (.iadd, 1) := by decide +kernel
theorem dX12_bitsOf_23 : decode cX12_bitsOf 23 = .ok (.iaload, 1) := by decide +kernel
theorem dX12_bitsOf_24 : decode cX12_bitsOf 24 = .ok (.iload_n 2, 1) := by decide +kernel
theorem dX12_bitsOf_25 : decode cX12_bitsOf 25 = .ok (.if_icmp .ne 10, 3) := by decide +kernel
theorem dX12_bitsOf_28 : decode cX12_bitsOf 28 = .ok (.iconst 1, 1) := by decide +kernel
theorem dX12_bitsOf_29 : decode cX12_bitsOf 29 = .ok (.iload 4, 2) := by decide +kernel
theorem dX12_bitsOf_31 : decode cX12_bitsOf 31 = .ok (.ishl, 1) := by decide +kernel
theorem dX12_bitsOf_32 : decode cX12_bitsOf 32 = .ok (.goto 4, 3) := by decide +kernel
theorem dX12_bitsOf_35 : decode cX12_bitsOf 35 = .ok (.iconst 0, 1) := by decide +kernel
theorem dX12_bitsOf_36 : decode cX12_bitsOf 36 = .ok (.ior, 1) := by decide +kernel
theorem dX12_bitsOf_37 : decode cX12_bitsOf 37 = .ok (.istore_n 3, 1) := by decide +kernel
theorem dX12_bitsOf_38 : decode cX12_bitsOf 38 = .ok (.iinc 4 1, 3) := by decide +kernel
theorem dX12_bitsOf_41 : decode cX12_bitsOf 41 = .ok (.goto (-36), 3) := by decide +kernel
theorem dX12_bitsOf_44 : decode cX12_bitsOf 44 = .ok (.iload_n 3, 1) := by decide +kernel
theorem dX12_bitsOf_45 : decode cX12_bitsOf 45 = .ok (.ireturn, 1) := by decide +kernel
theorem dX12_marksMany_0 : decode cX12_marksMany 0 = .ok (.iconst 0, 1) := by decide +kernel
theorem dX12_marksMany_1 : decode cX12_marksMany 1 = .ok (.istore_n 1, 1) := by decide +kernel
theorem dX12_marksMany_2 : decode cX12_marksMany 2 = .ok (.iconst 0, 1) := by decide +kernel
theorem dX12_marksMany_3 : decode cX12_marksMany 3 = .ok (.istore_n 2, 1) := by decide +kernel
theorem dX12_marksMany_4 : decode cX12_marksMany 4 = .ok (.iload_n 2, 1) := by decide +kernel
theorem dX12_marksMany_5 : decode cX12_marksMany 5 = .ok (.aload_n 0, 1) := by decide +kernel
theorem dX12_marksMany_6 : decode cX12_marksMany 6 = .ok (.invokevirtual 278, 3) := by decide +kernel
theorem dX12_marksMany_9 : decode cX12_marksMany 9 = .ok (.if_icmp .ge 21, 3) := by decide +kernel
theorem dX12_marksMany_12 : decode cX12_marksMany 12 = .ok (.iload_n 1, 1) := by decide +kernel
theorem dX12_marksMany_13 : decode cX12_marksMany 13 = .ok (.aload_n 0, 1) := by decide +kernel
theorem dX12_marksMany_14 : decode cX12_marksMany 14 = .ok (.getfield 119, 3) := by decide +kernel
theorem dX12_marksMany_17 : decode cX12_marksMany 17 = .ok (.bipush 18, 2) := by decide +kernel
theorem dX12_marksMany_19 : decode cX12_marksMany 19 = .ok (.iload_n 2, 1) := by decide +kernel
theorem dX12_marksMany_20 : decode cX12_marksMany 20 = .ok (.iadd, 1) := by decide +kernel
theorem dX12_marksMany_21 : decode cX12_marksMany 21 = .ok (.iaload, 1) := by decide +kernel
theorem dX12_marksMany_22 : decode cX12_marksMany 22 = .ok (.iadd, 1) := by decide +kernel
theorem dX12_marksMany_23 : decode cX12_marksMany 23 = .ok (.istore_n 1, 1) := by decide +kernel
theorem dX12_marksMany_24 : decode cX12_marksMany 24 = .ok (.iinc 2 1, 3) := by decide +kernel
theorem dX12_marksMany_27 : decode cX12_marksMany 27 = .ok (.goto (-23), 3) := by decide +kernel
theorem dX12_marksMany_30 : decode cX12_marksMany 30 = .ok (.iload_n 1, 1) := by decide +kernel
theorem dX12_marksMany_31 : decode cX12_marksMany 31 = .ok (.ireturn, 1) := by decide +kernel
theorem dX12_count_0 : decode cX12_count 0 = .ok (.aload_n 0, 1) := by decide +kernel
theorem dX12_count_1 : decode cX12_count 1 = .ok (.iconst 0, 1) := by decide +kernel
theorem dX12_count_2 : decode cX12_count 2 = .ok (.putfield 1, 3) := by decide +kernel
theorem dX12_count_5 : decode cX12_count 5 = .ok (.iload_n 1, 1) := by decide +kernel
theorem dX12_count_6 : decode cX12_count 6 = .ok (.tableswitch 144 0 11 #[62, 62, 62, 69, 76, 87, 92, 100, 108, 115, 134, 139], 62) := by decide +kernel
theorem dX12_count_68 : decode cX12_count 68 = .ok (.aload_n 0, 1) := by decide +kernel
theorem dX12_count_69 : decode cX12_count 69 = .ok (.getfield 89, 3) := by decide +kernel
theorem dX12_count_72 : decode cX12_count 72 = .ok (.iload_n 1, 1) := by decide +kernel
theorem dX12_count_73 : decode cX12_count 73 = .ok (.iaload, 1) := by decide +kernel
theorem dX12_count_74 : decode cX12_count 74 = .ok (.ireturn, 1) := by decide +kernel
theorem dX12_count_75 : decode cX12_count 75 = .ok (.aload_n 0, 1) := by decide +kernel
theorem dX12_count_76 : decode cX12_count 76 = .ok (.getfield 119, 3) := by decide +kernel
theorem dX12_count_79 : decode cX12_count 79 = .ok (.iconst 0, 1) := by decide +kernel
theorem dX12_count_80 : decode cX12_count 80 = .ok (.iaload, 1) := by decide +kernel
theorem dX12_count_81 : decode cX12_count 81 = .ok (.ireturn, 1) := by decide +kernel
theorem dX12_count_82 : decode cX12_count 82 = .ok (.aload_n 0, 1) := by decide +kernel
theorem dX12_count_83 : decode cX12_count 83 = .ok (.aload_n 0, 1) := by decide +kernel
theorem dX12_count_84 : decode cX12_count 84 = .ok (.getfield 119, 3) := by decide +kernel
theorem dX12_count_87 : decode cX12_count 87 = .ok (.iconst 0, 1) := by decide +kernel
theorem dX12_count_88 : decode cX12_count 88 = .ok (.iaload, 1) := by decide +kernel
theorem dX12_count_89 : decode cX12_count 89 = .ok (.invokevirtual 291, 3) := by decide +kernel
theorem dX12_count_92 : decode cX12_count 92 = .ok (.ireturn, 1) := by decide +kernel
theorem dX12_count_93 : decode cX12_count 93 = .ok (.aload_n 0, 1) := by decide +kernel
theorem dX12_count_94 : decode cX12_count 94 = .ok (.invokevirtual 414, 3) := by decide +kernel
theorem dX12_count_97 : decode cX12_count 97 = .ok (.ireturn, 1) := by decide +kernel
theorem dX12_count_98 : decode cX12_count 98 = .ok (.aload_n 0, 1) := by decide +kernel
theorem dX12_count_99 : decode cX12_count 99 = .ok (.bipush 6, 2) := by decide +kernel
theorem dX12_count_101 : decode cX12_count 101 = .ok (.iconst 1, 1) := by decide +kernel
theorem dX12_count_102 : decode cX12_count 102 = .ok (.invokevirtual 417, 3) := by decide +kernel
theorem dX12_count_105 : decode cX12_count 105 = .ok (.ireturn, 1) := by decide +kernel
theorem dX12_count_106 : decode cX12_count 106 = .ok (.aload_n 0, 1) := by decide +kernel
theorem dX12_count_107 : decode cX12_count 107 = .ok (.bipush 12, 2) := by decide +kernel
theorem dX12_count_109 : decode cX12_count 109 = .ok (.iconst 1, 1) := by decide +kernel
theorem dX12_count_110 : decode cX12_count 110 = .ok (.invokevirtual 417, 3) := by decide +kernel
theorem dX12_count_113 : decode cX12_count 113 = .ok (.ireturn, 1) := by decide +kernel
theorem dX12_count_114 : decode cX12_count 114 = .ok (.aload_n 0, 1) := by decide +kernel
theorem dX12_count_115 : decode cX12_count 115 = .ok (.getfield 110, 3) := by decide +kernel
theorem dX12_count_118 : decode cX12_count 118 = .ok (.iconst 0, 1) := by decide +kernel
theorem dX12_count_119 : decode cX12_count 119 = .ok (.iaload, 1) := by decide +kernel
theorem dX12_count_120 : decode cX12_count 120 = .ok (.ireturn, 1) := by decide +kernel
theorem dX12_count_121 : decode cX12_count 121 = .ok (.aload_n 0, 1) := by decide +kernel
theorem dX12_count_122 : decode cX12_count 122 = .ok (.bipush 60, 2) := by decide +kernel
theorem dX12_count_124 : decode cX12_count 124 = .ok (.iconst 0, 1) := by decide +kernel
theorem dX12_count_125 : decode cX12_count 125 = .ok (.invokevirtual 417, 3) := by decide +kernel
theorem dX12_count_128 : decode cX12_count 128 = .ok (.aload_n 0, 1) := by decide +kernel
theorem dX12_count_129 : decode cX12_count 129 = .ok (.bipush 60, 2) := by decide +kernel
theorem dX12_count_131 : decode cX12_count 131 = .ok (.iconst 1, 1) := by decide +kernel
theorem dX12_count_132 : decode cX12_count 132 = .ok (.invokevirtual 417, 3) := by decide +kernel
theorem dX12_count_135 : decode cX12_count 135 = .ok (.ior, 1) := by decide +kernel
theorem dX12_count_136 : decode cX12_count 136 = .ok (.invokestatic 374, 3) := by decide +kernel
theorem dX12_count_139 : decode cX12_count 139 = .ok (.ireturn, 1) := by decide +kernel
theorem dX12_count_140 : decode cX12_count 140 = .ok (.aload_n 0, 1) := by decide +kernel
theorem dX12_count_141 : decode cX12_count 141 = .ok (.getfield 272, 3) := by decide +kernel
theorem dX12_count_144 : decode cX12_count 144 = .ok (.ireturn, 1) := by decide +kernel
theorem dX12_count_145 : decode cX12_count 145 = .ok (.aload_n 0, 1) := by decide +kernel
theorem dX12_count_146 : decode cX12_count 146 = .ok (.getfield 11, 3) := by decide +kernel
theorem dX12_count_149 : decode cX12_count 149 = .ok (.ireturn, 1) := by decide +kernel
theorem dX12_count_150 : decode cX12_count 150 = .ok (.iconst (-1), 1) := by decide +kernel
theorem dX12_count_151 : decode cX12_count 151 = .ok (.ireturn, 1) := by decide +kernel
theorem dJ11_isValidCodePoint_9a6ad_0 : decode cJ11_isValidCodePoint_9a6ad 0 = .ok (.iload_n 0, 1) := by decide +kernel
theorem dJ11_isValidCodePoint_9a6ad_1 : decode cJ11_isValidCodePoint_9a6ad 1 = .ok (.bipush 16, 2) := by decide +kernel
theorem dJ11_isValidCodePoint_9a6ad_3 : decode cJ11_isValidCodePoint_9a6ad 3 = .ok (.iushr, 1) := by decide +kernel
theorem dJ11_isValidCodePoint_9a6ad_4 : decode cJ11_isValidCodePoint_9a6ad 4 = .ok (.istore_n 1, 1) := by decide +kernel
theorem dJ11_isValidCodePoint_9a6ad_5 : decode cJ11_isValidCodePoint_9a6ad 5 = .ok (.iload_n 1, 1) := by decide +kernel
theorem dJ11_isValidCodePoint_9a6ad_6 : decode cJ11_isValidCodePoint_9a6ad 6 = .ok (.bipush 17, 2) := by decide +kernel
theorem dJ11_isValidCodePoint_9a6ad_8 : decode cJ11_isValidCodePoint_9a6ad 8 = .ok (.if_icmp .ge 7, 3) := by decide +kernel
theorem dJ11_isValidCodePoint_9a6ad_11 : decode cJ11_isValidCodePoint_9a6ad 11 = .ok (.iconst 1, 1) := by decide +kernel
theorem dJ11_isValidCodePoint_9a6ad_12 : decode cJ11_isValidCodePoint_9a6ad 12 = .ok (.goto 4, 3) := by decide +kernel
theorem dJ11_isValidCodePoint_9a6ad_15 : decode cJ11_isValidCodePoint_9a6ad 15 = .ok (.iconst 0, 1) := by decide +kernel
theorem dJ11_isValidCodePoint_9a6ad_16 : decode cJ11_isValidCodePoint_9a6ad 16 = .ok (.ireturn, 1) := by decide +kernel
theorem dJ11_highSurrogate_5068e_0 : decode cJ11_highSurrogate_5068e 0 = .ok (.iload_n 0, 1) := by decide +kernel
theorem dJ11_highSurrogate_5068e_1 : decode cJ11_highSurrogate_5068e 1 = .ok (.bipush 10, 2) := by decide +kernel
theorem dJ11_highSurrogate_5068e_3 : decode cJ11_highSurrogate_5068e 3 = .ok (.iushr, 1) := by decide +kernel
theorem dJ11_highSurrogate_5068e_4 : decode cJ11_highSurrogate_5068e 4 = .ok (.ldc 110, 2) := by decide +kernel
theorem dJ11_highSurrogate_5068e_6 : decode cJ11_highSurrogate_5068e 6 = .ok (.iadd, 1) := by decide +kernel
theorem dJ11_highSurrogate_5068e_7 : decode cJ11_highSurrogate_5068e 7 = .ok (.i2c, 1) := by decide +kernel
theorem dJ11_highSurrogate_5068e_8 : decode cJ11_highSurrogate_5068e 8 = .ok (.ireturn, 1) := by decide +kernel
theorem dJ11_lowSurrogate_5068e_0 : decode cJ11_lowSurrogate_5068e 0 = .ok (.iload_n 0, 1) := by decide +kernel
theorem dJ11_lowSurrogate_5068e_1 : decode cJ11_lowSurrogate_5068e 1 = .ok (.sipush 1023, 3) := by decide +kernel
theorem dJ11_lowSurrogate_5068e_4 : decode cJ11_lowSurrogate_5068e 4 = .ok (.iand, 1) := by decide +kernel
theorem dJ11_lowSurrogate_5068e_5 : decode cJ11_lowSurrogate_5068e 5 = .ok (.ldc 76, 2) := by decide +kernel
theorem dJ11_lowSurrogate_5068e_7 : decode cJ11_lowSurrogate_5068e 7 = .ok (.iadd, 1) := by decide +kernel
theorem dJ11_lowSurrogate_5068e_8 : decode cJ11_lowSurrogate_5068e 8 = .ok (.i2c, 1) := by decide +kernel
theorem dJ11_lowSurrogate_5068e_9 : decode cJ11_lowSurrogate_5068e 9 = .ok (.ireturn, 1) := by decide +kernel
theorem dJ6_bitCount_0f7a4_0 : decode cJ6_bitCount_0f7a4 0 = .ok (.iload_n 0, 1) := by decide +kernel
theorem dJ6_bitCount_0f7a4_1 : decode cJ6_bitCount_0f7a4 1 = .ok (.iload_n 0, 1) := by decide +kernel
theorem dJ6_bitCount_0f7a4_2 : decode cJ6_bitCount_0f7a4 2 = .ok (.iconst 1, 1) := by decide +kernel
theorem dJ6_bitCount_0f7a4_3 : decode cJ6_bitCount_0f7a4 3 = .ok (.iushr, 1) := by decide +kernel
theorem dJ6_bitCount_0f7a4_4 : decode cJ6_bitCount_0f7a4 4 = .ok (.ldc_w 265, 3) := by decide +kernel
theorem dJ6_bitCount_0f7a4_7 : decode cJ6_bitCount_0f7a4 7 = .ok (.iand, 1) := by decide +kernel
theorem dJ6_bitCount_0f7a4_8 : decode cJ6_bitCount_0f7a4 8 = .ok (.isub, 1) := by decide +kernel
theorem dJ6_bitCount_0f7a4_9 : decode cJ6_bitCount_0f7a4 9 = .ok (.istore_n 0, 1) := by decide +kernel
theorem dJ6_bitCount_0f7a4_10 : decode cJ6_bitCount_0f7a4 10 = .ok (.iload_n 0, 1) := by decide +kernel
theorem dJ6_bitCount_0f7a4_11 : decode cJ6_bitCount_0f7a4 11 = .ok (.ldc_w 266, 3) := by decide +kernel
theorem dJ6_bitCount_0f7a4_14 : decode cJ6_bitCount_0f7a4 14 = .ok (.iand, 1) := by decide +kernel
theorem dJ6_bitCount_0f7a4_15 : decode cJ6_bitCount_0f7a4 15 = .ok (.iload_n 0, 1) := by decide +kernel
theorem dJ6_bitCount_0f7a4_16 : decode cJ6_bitCount_0f7a4 16 = .ok (.iconst 2, 1) := by decide +kernel
theorem dJ6_bitCount_0f7a4_17 : decode cJ6_bitCount_0f7a4 17 = .ok (.iushr, 1) := by decide +kernel
theorem dJ6_bitCount_0f7a4_18 : decode cJ6_bitCount_0f7a4 18 = .ok (.ldc_w 266, 3) := by decide +kernel
theorem dJ6_bitCount_0f7a4_21 : decode cJ6_bitCount_0f7a4 21 = .ok (.iand, 1) := by decide +kernel
theorem dJ6_bitCount_0f7a4_22 : decode cJ6_bitCount_0f7a4 22 = .ok (.iadd, 1) := by decide +kernel
theorem dJ6_bitCount_0f7a4_23 : decode cJ6_bitCount_0f7a4 23 = .ok (.istore_n 0, 1) := by decide +kernel
theorem dJ6_bitCount_0f7a4_24 : decode cJ6_bitCount_0f7a4 24 = .ok (.iload_n 0, 1) := by decide +kernel
theorem dJ6_bitCount_0f7a4_25 : decode cJ6_bitCount_0f7a4 25 = .ok (.iload_n 0, 1) := by decide +kernel
theorem dJ6_bitCount_0f7a4_26 : decode cJ6_bitCount_0f7a4 26 = .ok (.iconst 4, 1) := by decide +kernel
theorem dJ6_bitCount_0f7a4_27 : decode cJ6_bitCount_0f7a4 27 = .ok (.iushr, 1) := by decide +kernel
theorem dJ6_bitCount_0f7a4_28 : decode cJ6_bitCount_0f7a4 28 = .ok (.iadd, 1) := by decide +kernel
theorem dJ6_bitCount_0f7a4_29 : decode cJ6_bitCount_0f7a4 29 = .ok (.ldc_w 267, 3) := by decide +kernel
theorem dJ6_bitCount_0f7a4_32 : decode cJ6_bitCount_0f7a4 32 = .ok (.iand, 1) := by decide +kernel
theorem dJ6_bitCount_0f7a4_33 : decode cJ6_bitCount_0f7a4 33 = .ok (.istore_n 0, 1) := by decide +kernel
theorem dJ6_bitCount_0f7a4_34 : decode cJ6_bitCount_0f7a4 34 = .ok (.iload_n 0, 1) := by decide +kernel
theorem dJ6_bitCount_0f7a4_35 : decode cJ6_bitCount_0f7a4 35 = .ok (.iload_n 0, 1) := by decide +kernel
theorem dJ6_bitCount_0f7a4_36 : decode cJ6_bitCount_0f7a4 36 = .ok (.bipush 8, 2) := by decide +kernel
theorem dJ6_bitCount_0f7a4_38 : decode cJ6_bitCount_0f7a4 38 = .ok (.iushr, 1) := by decide +kernel
theorem dJ6_bitCount_0f7a4_39 : decode cJ6_bitCount_0f7a4 39 = .ok (.iadd, 1) := by decide +kernel
theorem dJ6_bitCount_0f7a4_40 : decode cJ6_bitCount_0f7a4 40 = .ok (.istore_n 0, 1) := by decide +kernel
theorem dJ6_bitCount_0f7a4_41 : decode cJ6_bitCount_0f7a4 41 = .ok (.iload_n 0, 1) := by decide +kernel
theorem dJ6_bitCount_0f7a4_42 : decode cJ6_bitCount_0f7a4 42 = .ok (.iload_n 0, 1) := by decide +kernel
theorem dJ6_bitCount_0f7a4_43 : decode cJ6_bitCount_0f7a4 43 = .ok (.bipush 16, 2) := by decide +kernel
theorem dJ6_bitCount_0f7a4_45 : decode cJ6_bitCount_0f7a4 45 = .ok (.iushr, 1) := by decide +kernel
theorem dJ6_bitCount_0f7a4_46 : decode cJ6_bitCount_0f7a4 46 = .ok (.iadd, 1) := by decide +kernel
theorem dJ6_bitCount_0f7a4_47 : decode cJ6_bitCount_0f7a4 47 = .ok (.istore_n 0, 1) := by decide +kernel
theorem dJ6_bitCount_0f7a4_48 : decode cJ6_bitCount_0f7a4 48 = .ok (.iload_n 0, 1) := by decide +kernel
theorem dJ6_bitCount_0f7a4_49 : decode cJ6_bitCount_0f7a4 49 = .ok (.bipush 63, 2) := by decide +kernel
theorem dJ6_bitCount_0f7a4_51 : decode cJ6_bitCount_0f7a4 51 = .ok (.iand, 1) := by decide +kernel
theorem dJ6_bitCount_0f7a4_52 : decode cJ6_bitCount_0f7a4 52 = .ok (.ireturn, 1) := by decide +kernel
theorem dJ9_floorMod_7cf53_0 : decode cJ9_floorMod_7cf53 0 = .ok (.iload_n 0, 1) := by decide +kernel
theorem dJ9_floorMod_7cf53_1 : decode cJ9_floorMod_7cf53 1 = .ok (.iload_n 1, 1) := by decide +kernel
theorem dJ9_floorMod_7cf53_2 : decode cJ9_floorMod_7cf53 2 = .ok (.irem, 1) := by decide +kernel
theorem dJ9_floorMod_7cf53_3 : decode cJ9_floorMod_7cf53 3 = .ok (.istore_n 2, 1) := by decide +kernel
theorem dJ9_floorMod_7cf53_4 : decode cJ9_floorMod_7cf53 4 = .ok (.iload_n 0, 1) := by decide +kernel
theorem dJ9_floorMod_7cf53_5 : decode cJ9_floorMod_7cf53 5 = .ok (.iload_n 1, 1) := by decide +kernel
theorem dJ9_floorMod_7cf53_6 : decode cJ9_floorMod_7cf53 6 = .ok (.ixor, 1) := by decide +kernel
theorem dJ9_floorMod_7cf53_7 : decode cJ9_floorMod_7cf53 7 = .ok (.ifCond .ge 11, 3) := by decide +kernel
theorem dJ9_floorMod_7cf53_10 : decode cJ9_floorMod_7cf53 10 = .ok (.iload_n 2, 1) := by decide +kernel
theorem dJ9_floorMod_7cf53_11 : decode cJ9_floorMod_7cf53 11 = .ok (.ifCond .eq 7, 3) := by decide +kernel
theorem dJ9_floorMod_7cf53_14 : decode cJ9_floorMod_7cf53 14 = .ok (.iload_n 2, 1) := by decide +kernel
theorem dJ9_floorMod_7cf53_15 : decode cJ9_floorMod_7cf53 15 = .ok (.iload_n 1, 1) := by decide +kernel
theorem dJ9_floorMod_7cf53_16 : decode cJ9_floorMod_7cf53 16 = .ok (.iadd, 1) := by decide +kernel
theorem dJ9_floorMod_7cf53_17 : decode cJ9_floorMod_7cf53 17 = .ok (.ireturn, 1) := by decide +kernel
theorem dJ9_floorMod_7cf53_18 : decode cJ9_floorMod_7cf53 18 = .ok (.iload_n 2, 1) := by decide +kernel
theorem dJ9_floorMod_7cf53_19 : decode cJ9_floorMod_7cf53 19 = .ok (.ireturn, 1) := by decide +kernel
theorem dJ9_abs_0f7a4_0 : decode cJ9_abs_0f7a4 0 = .ok (.iload_n 0, 1) := by decide +kernel
theorem dJ9_abs_0f7a4_1 : decode cJ9_abs_0f7a4 1 = .ok (.ifCond .ge 8, 3) := by decide +kernel
theorem dJ9_abs_0f7a4_4 : decode cJ9_abs_0f7a4 4 = .ok (.iload_n 0, 1) := by decide +kernel
theorem dJ9_abs_0f7a4_5 : decode cJ9_abs_0f7a4 5 = .ok (.ineg, 1) := by decide +kernel
theorem dJ9_abs_0f7a4_6 : decode cJ9_abs_0f7a4 6 = .ok (.goto 4, 3) := by decide +kernel
theorem dJ9_abs_0f7a4_9 : decode cJ9_abs_0f7a4 9 = .ok (.iload_n 0, 1) := by decide +kernel
theorem dJ9_abs_0f7a4_10 : decode cJ9_abs_0f7a4 10 = .ok (.ireturn, 1) := by decide +kernel
theorem dJ9_max_7cf53_0 : decode cJ9_max_7cf53 0 = .ok (.iload_n 0, 1) := by decide +kernel
theorem dJ9_max_7cf53_1 : decode cJ9_max_7cf53 1 = .ok (.iload_n 1, 1) := by decide +kernel
theorem dJ9_max_7cf53_2 : decode cJ9_max_7cf53 2 = .ok (.if_icmp .lt 7, 3) := by decide +kernel
theorem dJ9_max_7cf53_5 : decode cJ9_max_7cf53 5 = .ok (.iload_n 0, 1) := by decide +kernel
theorem dJ9_max_7cf53_6 : decode cJ9_max_7cf53 6 = .ok (.goto 4, 3) := by decide +kernel
theorem dJ9_max_7cf53_9 : decode cJ9_max_7cf53 9 = .ok (.iload_n 1, 1) := by decide +kernel
theorem dJ9_max_7cf53_10 : decode cJ9_max_7cf53 10 = .ok (.ireturn, 1) := by decide +kernel
theorem dJ9_min_7cf53_0 : decode cJ9_min_7cf53 0 = .ok (.iload_n 0, 1) := by decide +kernel
theorem dJ9_min_7cf53_1 : decode cJ9_min_7cf53 1 = .ok (.iload_n 1, 1) := by decide +kernel
theorem dJ9_min_7cf53_2 : decode cJ9_min_7cf53 2 = .ok (.if_icmp .gt 7, 3) := by decide +kernel
theorem dJ9_min_7cf53_5 : decode cJ9_min_7cf53 5 = .ok (.iload_n 0, 1) := by decide +kernel
theorem dJ9_min_7cf53_6 : decode cJ9_min_7cf53 6 = .ok (.goto 4, 3) := by decide +kernel
theorem dJ9_min_7cf53_9 : decode cJ9_min_7cf53 9 = .ok (.iload_n 1, 1) := by decide +kernel
theorem dJ9_min_7cf53_10 : decode cJ9_min_7cf53 10 = .ok (.ireturn, 1) := by decide +kernel
theorem dJ0_length_8abf5_0 : decode cJ0_length_8abf5 0 = .ok (.aload_n 0, 1) := by decide +kernel
theorem dJ0_length_8abf5_1 : decode cJ0_length_8abf5 1 = .ok (.getfield 9, 3) := by decide +kernel
theorem dJ0_length_8abf5_4 : decode cJ0_length_8abf5 4 = .ok (.arraylength, 1) := by decide +kernel
theorem dJ0_length_8abf5_5 : decode cJ0_length_8abf5 5 = .ok (.aload_n 0, 1) := by decide +kernel
theorem dJ0_length_8abf5_6 : decode cJ0_length_8abf5 6 = .ok (.invokevirtual 335, 3) := by decide +kernel
theorem dJ0_length_8abf5_9 : decode cJ0_length_8abf5 9 = .ok (.ishr, 1) := by decide +kernel
theorem dJ0_length_8abf5_10 : decode cJ0_length_8abf5 10 = .ok (.ireturn, 1) := by decide +kernel
theorem dJ0_charAt_5068e_0 : decode cJ0_charAt_5068e 0 = .ok (.aload_n 0, 1) := by decide +kernel
theorem dJ0_charAt_5068e_1 : decode cJ0_charAt_5068e 1 = .ok (.invokevirtual 492, 3) := by decide +kernel
theorem dJ0_charAt_5068e_4 : decode cJ0_charAt_5068e 4 = .ok (.ifCond .eq 12, 3) := by decide +kernel
theorem dJ0_charAt_5068e_7 : decode cJ0_charAt_5068e 7 = .ok (.aload_n 0, 1) := by decide +kernel
theorem dJ0_charAt_5068e_8 : decode cJ0_charAt_5068e 8 = .ok (.getfield 9, 3) := by decide +kernel
theorem dJ0_charAt_5068e_11 : decode cJ0_charAt_5068e 11 = .ok (.iload_n 1, 1) := by decide +kernel
theorem dJ0_charAt_5068e_12 : decode cJ0_charAt_5068e 12 = .ok (.invokestatic 495, 3) := by decide +kernel
theorem dJ0_charAt_5068e_15 : decode cJ0_charAt_5068e 15 = .ok (.ireturn, 1) := by decide +kernel
theorem dJ0_charAt_5068e_16 : decode cJ0_charAt_5068e 16 = .ok (.aload_n 0, 1) := by decide +kernel
theorem dJ0_charAt_5068e_17 : decode cJ0_charAt_5068e 17 = .ok (.getfield 9, 3) := by decide +kernel
theorem dJ0_charAt_5068e_20 : decode cJ0_charAt_5068e 20 = .ok (.iload_n 1, 1) := by decide +kernel
theorem dJ0_charAt_5068e_21 : decode cJ0_charAt_5068e 21 = .ok (.invokestatic 498, 3) := by decide +kernel
theorem dJ0_charAt_5068e_24 : decode cJ0_charAt_5068e 24 = .ok (.ireturn, 1) := by decide +kernel
theorem dJ0_indexOf_0f7a4_0 : decode cJ0_indexOf_0f7a4 0 = .ok (.aload_n 0, 1) := by decide +kernel
theorem dJ0_indexOf_0f7a4_1 : decode cJ0_indexOf_0f7a4 1 = .ok (.iload_n 1, 1) := by decide +kernel
theorem dJ0_indexOf_0f7a4_2 : decode cJ0_indexOf_0f7a4 2 = .ok (.iconst 0, 1) := by decide +kernel
theorem dJ0_indexOf_0f7a4_3 : decode cJ0_indexOf_0f7a4 3 = .ok (.invokevirtual 633, 3) := by decide +kernel
theorem dJ0_indexOf_0f7a4_6 : decode cJ0_indexOf_0f7a4 6 = .ok (.ireturn, 1) := by decide +kernel
theorem dJ0_indexOf_7cf53_0 : decode cJ0_indexOf_7cf53 0 = .ok (.aload_n 0, 1) := by decide +kernel
theorem dJ0_indexOf_7cf53_1 : decode cJ0_indexOf_7cf53 1 = .ok (.invokevirtual 492, 3) := by decide +kernel
theorem dJ0_indexOf_7cf53_4 : decode cJ0_indexOf_7cf53 4 = .ok (.ifCond .eq 19, 3) := by decide +kernel
theorem dJ0_indexOf_7cf53_7 : decode cJ0_indexOf_7cf53 7 = .ok (.aload_n 0, 1) := by decide +kernel
theorem dJ0_indexOf_7cf53_8 : decode cJ0_indexOf_7cf53 8 = .ok (.getfield 9, 3) := by decide +kernel
theorem dJ0_indexOf_7cf53_11 : decode cJ0_indexOf_7cf53 11 = .ok (.iload_n 1, 1) := by decide +kernel
theorem dJ0_indexOf_7cf53_12 : decode cJ0_indexOf_7cf53 12 = .ok (.iload_n 2, 1) := by decide +kernel
theorem dJ0_indexOf_7cf53_13 : decode cJ0_indexOf_7cf53 13 = .ok (.aload_n 0, 1) := by decide +kernel
theorem dJ0_indexOf_7cf53_14 : decode cJ0_indexOf_7cf53 14 = .ok (.invokevirtual 505, 3) := by decide +kernel
theorem dJ0_indexOf_7cf53_17 : decode cJ0_indexOf_7cf53 17 = .ok (.invokestatic 637, 3) := by decide +kernel
theorem dJ0_indexOf_7cf53_20 : decode cJ0_indexOf_7cf53 20 = .ok (.goto 16, 3) := by decide +kernel
theorem dJ0_indexOf_7cf53_23 : decode cJ0_indexOf_7cf53 23 = .ok (.aload_n 0, 1) := by decide +kernel
theorem dJ0_indexOf_7cf53_24 : decode cJ0_indexOf_7cf53 24 = .ok (.getfield 9, 3) := by decide +kernel
theorem dJ0_indexOf_7cf53_27 : decode cJ0_indexOf_7cf53 27 = .ok (.iload_n 1, 1) := by decide +kernel
theorem dJ0_indexOf_7cf53_28 : decode cJ0_indexOf_7cf53 28 = .ok (.iload_n 2, 1) := by decide +kernel
theorem dJ0_indexOf_7cf53_29 : decode cJ0_indexOf_7cf53 29 = .ok (.aload_n 0, 1) := by decide +kernel
theorem dJ0_indexOf_7cf53_30 : decode cJ0_indexOf_7cf53 30 = .ok (.invokevirtual 505, 3) := by decide +kernel
theorem dJ0_indexOf_7cf53_33 : decode cJ0_indexOf_7cf53 33 = .ok (.invokestatic 640, 3) := by decide +kernel
theorem dJ0_indexOf_7cf53_36 : decode cJ0_indexOf_7cf53 36 = .ok (.ireturn, 1) := by decide +kernel
theorem dJ0_coder_7d493_0 : decode cJ0_coder_7d493 0 = .ok (.getstatic 38, 3) := by decide +kernel
theorem dJ0_coder_7d493_3 : decode cJ0_coder_7d493 3 = .ok (.ifCond .eq 10, 3) := by decide +kernel
theorem dJ0_coder_7d493_6 : decode cJ0_coder_7d493 6 = .ok (.aload_n 0, 1) := by decide +kernel
theorem dJ0_coder_7d493_7 : decode cJ0_coder_7d493 7 = .ok (.getfield 15, 3) := by decide +kernel
theorem dJ0_coder_7d493_10 : decode cJ0_coder_7d493 10 = .ok (.goto 4, 3) := by decide +kernel
theorem dJ0_coder_7d493_13 : decode cJ0_coder_7d493 13 = .ok (.iconst 1, 1) := by decide +kernel
theorem dJ0_coder_7d493_14 : decode cJ0_coder_7d493 14 = .ok (.ireturn, 1) := by decide +kernel
theorem dJ0_isLatin1_aae02_0 : decode cJ0_isLatin1_aae02 0 = .ok (.getstatic 38, 3) := by decide +kernel
theorem dJ0_isLatin1_aae02_3 : decode cJ0_isLatin1_aae02 3 = .ok (.ifCond .eq 14, 3) := by decide +kernel
theorem dJ0_isLatin1_aae02_6 : decode cJ0_isLatin1_aae02 6 = .ok (.aload_n 0, 1) := by decide +kernel
theorem dJ0_isLatin1_aae02_7 : decode cJ0_isLatin1_aae02 7 = .ok (.getfield 15, 3) := by decide +kernel
theorem dJ0_isLatin1_aae02_10 : decode cJ0_isLatin1_aae02 10 = .ok (.ifCond .ne 7, 3) := by decide +kernel
theorem dJ0_isLatin1_aae02_13 : decode cJ0_isLatin1_aae02 13 = .ok (.iconst 1, 1) := by decide +kernel
theorem dJ0_isLatin1_aae02_14 : decode cJ0_isLatin1_aae02 14 = .ok (.goto 4, 3) := by decide +kernel
theorem dJ0_isLatin1_aae02_17 : decode cJ0_isLatin1_aae02 17 = .ok (.iconst 0, 1) := by decide +kernel
theorem dJ0_isLatin1_aae02_18 : decode cJ0_isLatin1_aae02 18 = .ok (.ireturn, 1) := by decide +kernel
theorem dJ0_checkIndex_df160_0 : decode cJ0_checkIndex_df160 0 = .ok (.iload_n 0, 1) := by decide +kernel
theorem dJ0_checkIndex_df160_1 : decode cJ0_checkIndex_df160 1 = .ok (.iload_n 1, 1) := by decide +kernel
theorem dJ0_checkIndex_df160_2 : decode cJ0_checkIndex_df160 2 = .ok (.getstatic 1053, 3) := by decide +kernel
theorem dJ0_checkIndex_df160_5 : decode cJ0_checkIndex_df160 5 = .ok (.invokestatic 1059, 3) := by decide +kernel
theorem dJ0_checkIndex_df160_8 : decode cJ0_checkIndex_df160 8 = .ok (.pop, 1) := by decide +kernel
theorem dJ0_checkIndex_df160_9 : decode cJ0_checkIndex_df160 9 = .ok (.return_, 1) := by decide +kernel
theorem dJ0_checkBoundsBeginEnd_23922_0 : decode cJ0_checkBoundsBeginEnd_23922 0 = .ok (.iload_n 0, 1) := by decide +kernel
theorem dJ0_checkBoundsBeginEnd_23922_1 : decode cJ0_checkBoundsBeginEnd_23922 1 = .ok (.iload_n 1, 1) := by decide +kernel
theorem dJ0_checkBoundsBeginEnd_23922_2 : decode cJ0_checkBoundsBeginEnd_23922 2 = .ok (.iload_n 2, 1) := by decide +kernel
theorem dJ0_checkBoundsBeginEnd_23922_3 : decode cJ0_checkBoundsBeginEnd_23922 3 = .ok (.getstatic 1053, 3) := by decide +kernel
theorem dJ0_checkBoundsBeginEnd_23922_6 : decode cJ0_checkBoundsBeginEnd_23922 6 = .ok (.invokestatic 1062, 3) := by decide +kernel
theorem dJ0_checkBoundsBeginEnd_23922_9 : decode cJ0_checkBoundsBeginEnd_23922 9 = .ok (.pop, 1) := by decide +kernel
theorem dJ0_checkBoundsBeginEnd_23922_10 : decode cJ0_checkBoundsBeginEnd_23922 10 = .ok (.return_, 1) := by decide +kernel
theorem dJ1_charAt_3b067_0 : decode cJ1_charAt_3b067 0 = .ok (.iload_n 1, 1) := by decide +kernel
theorem dJ1_charAt_3b067_1 : decode cJ1_charAt_3b067 1 = .ok (.aload_n 0, 1) := by decide +kernel
theorem dJ1_charAt_3b067_2 : decode cJ1_charAt_3b067 2 = .ok (.arraylength, 1) := by decide +kernel
theorem dJ1_charAt_3b067_3 : decode cJ1_charAt_3b067 3 = .ok (.invokestatic 9, 3) := by decide +kernel
theorem dJ1_charAt_3b067_6 : decode cJ1_charAt_3b067 6 = .ok (.aload_n 0, 1) := by decide +kernel
theorem dJ1_charAt_3b067_7 : decode cJ1_charAt_3b067 7 = .ok (.iload_n 1, 1) := by decide +kernel
theorem dJ1_charAt_3b067_8 : decode cJ1_charAt_3b067 8 = .ok (.baload, 1) := by decide +kernel
theorem dJ1_charAt_3b067_9 : decode cJ1_charAt_3b067 9 = .ok (.sipush 255, 3) := by decide +kernel
theorem dJ1_charAt_3b067_12 : decode cJ1_charAt_3b067 12 = .ok (.iand, 1) := by decide +kernel
theorem dJ1_charAt_3b067_13 : decode cJ1_charAt_3b067 13 = .ok (.i2c, 1) := by decide +kernel
theorem dJ1_charAt_3b067_14 : decode cJ1_charAt_3b067 14 = .ok (.ireturn, 1) := by decide +kernel
theorem dJ1_canEncode_9a6ad_0 : decode cJ1_canEncode_9a6ad 0 = .ok (.iload_n 0, 1) := by decide +kernel
theorem dJ1_canEncode_9a6ad_1 : decode cJ1_canEncode_9a6ad 1 = .ok (.ifCond .lt 14, 3) := by decide +kernel
theorem dJ1_canEncode_9a6ad_4 : decode cJ1_canEncode_9a6ad 4 = .ok (.iload_n 0, 1) := by decide +kernel
theorem dJ1_canEncode_9a6ad_5 : decode cJ1_canEncode_9a6ad 5 = .ok (.sipush 255, 3) := by decide +kernel
theorem dJ1_canEncode_9a6ad_8 : decode cJ1_canEncode_9a6ad 8 = .ok (.if_icmp .gt 7, 3) := by decide +kernel
theorem dJ1_canEncode_9a6ad_11 : decode cJ1_canEncode_9a6ad 11 = .ok (.iconst 1, 1) := by decide +kernel
theorem dJ1_canEncode_9a6ad_12 : decode cJ1_canEncode_9a6ad 12 = .ok (.goto 4, 3) := by decide +kernel
theorem dJ1_canEncode_9a6ad_15 : decode cJ1_canEncode_9a6ad 15 = .ok (.iconst 0, 1) := by decide +kernel
theorem dJ1_canEncode_9a6ad_16 : decode cJ1_canEncode_9a6ad 16 = .ok (.ireturn, 1) := by decide +kernel
theorem dJ1_indexOf_4cfef_0 : decode cJ1_indexOf_4cfef 0 = .ok (.iload_n 1, 1) := by decide +kernel
theorem dJ1_indexOf_4cfef_1 : decode cJ1_indexOf_4cfef 1 = .ok (.invokestatic 88, 3) := by decide +kernel
theorem dJ1_indexOf_4cfef_4 : decode cJ1_indexOf_4cfef 4 = .ok (.ifCond .ne 5, 3) := by decide +kernel
theorem dJ1_indexOf_4cfef_7 : decode cJ1_indexOf_4cfef 7 = .ok (.iconst (-1), 1) := by decide +kernel
theorem dJ1_indexOf_4cfef_8 : decode cJ1_indexOf_4cfef 8 = .ok (.ireturn, 1) := by decide +kernel
theorem dJ1_indexOf_4cfef_9 : decode cJ1_indexOf_4cfef 9 = .ok (.iload_n 2, 1) := by decide +kernel
theorem dJ1_indexOf_4cfef_10 : decode cJ1_indexOf_4cfef 10 = .ok (.iconst 0, 1) := by decide +kernel
theorem dJ1_indexOf_4cfef_11 : decode cJ1_indexOf_4cfef 11 = .ok (.invokestatic 92, 3) := by decide +kernel
theorem dJ1_indexOf_4cfef_14 : decode cJ1_indexOf_4cfef 14 = .ok (.istore_n 2, 1) := by decide +kernel
theorem dJ1_indexOf_4cfef_15 : decode cJ1_indexOf_4cfef 15 = .ok (.iload_n 3, 1) := by decide +kernel
theorem dJ1_indexOf_4cfef_16 : decode cJ1_indexOf_4cfef 16 = .ok (.aload_n 0, 1) := by decide +kernel
theorem dJ1_indexOf_4cfef_17 : decode cJ1_indexOf_4cfef 17 = .ok (.arraylength, 1) := by decide +kernel
theorem dJ1_indexOf_4cfef_18 : decode cJ1_indexOf_4cfef 18 = .ok (.invokestatic 38, 3) := by decide +kernel
theorem dJ1_indexOf_4cfef_21 : decode cJ1_indexOf_4cfef 21 = .ok (.istore_n 3, 1) := by decide +kernel
theorem dJ1_indexOf_4cfef_22 : decode cJ1_indexOf_4cfef 22 = .ok (.iload_n 2, 1) := by decide +kernel
theorem dJ1_indexOf_4cfef_23 : decode cJ1_indexOf_4cfef 23 = .ok (.iload_n 3, 1) := by decide +kernel
theorem dJ1_indexOf_4cfef_24 : decode cJ1_indexOf_4cfef 24 = .ok (.if_icmp .lt 5, 3) := by decide +kernel
theorem dJ1_indexOf_4cfef_27 : decode cJ1_indexOf_4cfef 27 = .ok (.iconst (-1), 1) := by decide +kernel
theorem dJ1_indexOf_4cfef_28 : decode cJ1_indexOf_4cfef 28 = .ok (.ireturn, 1) := by decide +kernel
theorem dJ1_indexOf_4cfef_29 : decode cJ1_indexOf_4cfef 29 = .ok (.aload_n 0, 1) := by decide +kernel
theorem dJ1_indexOf_4cfef_30 : decode cJ1_indexOf_4cfef 30 = .ok (.iload_n 1, 1) := by decide +kernel
theorem dJ1_indexOf_4cfef_31 : decode cJ1_indexOf_4cfef 31 = .ok (.iload_n 2, 1) := by decide +kernel
theorem dJ1_indexOf_4cfef_32 : decode cJ1_indexOf_4cfef 32 = .ok (.iload_n 3, 1) := by decide +kernel
theorem dJ1_indexOf_4cfef_33 : decode cJ1_indexOf_4cfef 33 = .ok (.invokestatic 95, 3) := by decide +kernel
theorem dJ1_indexOf_4cfef_36 : decode cJ1_indexOf_4cfef 36 = .ok (.ireturn, 1) := by decide +kernel
theorem dJ1_indexOfChar_4cfef_0 : decode cJ1_indexOfChar_4cfef 0 = .ok (.iload_n 1, 1) := by decide +kernel
theorem dJ1_indexOfChar_4cfef_1 : decode cJ1_indexOfChar_4cfef 1 = .ok (.i2b, 1) := by decide +kernel
theorem dJ1_indexOfChar_4cfef_2 : decode cJ1_indexOfChar_4cfef 2 = .ok (.istore 4, 2) := by decide +kernel
theorem dJ1_indexOfChar_4cfef_4 : decode cJ1_indexOfChar_4cfef 4 = .ok (.iload_n 2, 1) := by decide +kernel
theorem dJ1_indexOfChar_4cfef_5 : decode cJ1_indexOfChar_4cfef 5 = .ok (.istore 5, 2) := by decide +kernel
theorem dJ1_indexOfChar_4cfef_7 : decode cJ1_indexOfChar_4cfef 7 = .ok (.iload 5, 2) := by decide +kernel
theorem dJ1_indexOfChar_4cfef_9 : decode cJ1_indexOfChar_4cfef 9 = .ok (.iload_n 3, 1) := by decide +kernel
theorem dJ1_indexOfChar_4cfef_10 : decode cJ1_indexOfChar_4cfef 10 = .ok (.if_icmp .ge 21, 3) := by decide +kernel
theorem dJ1_indexOfChar_4cfef_13 : decode cJ1_indexOfChar_4cfef 13 = .ok (.aload_n 0, 1) := by decide +kernel
theorem dJ1_indexOfChar_4cfef_14 : decode cJ1_indexOfChar_4cfef 14 = .ok (.iload 5, 2) := by decide +kernel
theorem dJ1_indexOfChar_4cfef_16 : decode cJ1_indexOfChar_4cfef 16 = .ok (.baload, 1) := by decide +kernel
theorem dJ1_indexOfChar_4cfef_17 : decode cJ1_indexOfChar_4cfef 17 = .ok (.iload 4, 2) := by decide +kernel
theorem dJ1_indexOfChar_4cfef_19 : decode cJ1_indexOfChar_4cfef 19 = .ok (.if_icmp .ne 6, 3) := by decide +kernel
theorem dJ1_indexOfChar_4cfef_22 : decode cJ1_indexOfChar_4cfef 22 = .ok (.iload 5, 2) := by decide +kernel
theorem dJ1_indexOfChar_4cfef_24 : decode cJ1_indexOfChar_4cfef 24 = .ok (.ireturn, 1) := by decide +kernel
theorem dJ1_indexOfChar_4cfef_25 : decode cJ1_indexOfChar_4cfef 25 = .ok (.iinc 5 1, 3) := by decide +kernel
theorem dJ1_indexOfChar_4cfef_28 : decode cJ1_indexOfChar_4cfef 28 = .ok (.goto (-21), 3) := by decide +kernel
theorem dJ1_indexOfChar_4cfef_31 : decode cJ1_indexOfChar_4cfef 31 = .ok (.iconst (-1), 1) := by decide +kernel
theorem dJ1_indexOfChar_4cfef_32 : decode cJ1_indexOfChar_4cfef 32 = .ok (.ireturn, 1) := by decide +kernel
theorem dJ2_getChar_3b067_0 : decode cJ2_getChar_3b067 0 = .ok (.getstatic 44, 3) := by decide +kernel
theorem dJ2_getChar_3b067_3 : decode cJ2_getChar_3b067 3 = .ok (.ifCond .ne 25, 3) := by decide +kernel
theorem dJ2_getChar_3b067_6 : decode cJ2_getChar_3b067 6 = .ok (.iload_n 1, 1) := by decide +kernel
theorem dJ2_getChar_3b067_7 : decode cJ2_getChar_3b067 7 = .ok (.ifCond .lt 11, 3) := by decide +kernel
theorem dJ2_getChar_3b067_10 : decode cJ2_getChar_3b067 10 = .ok (.iload_n 1, 1) := by decide +kernel
theorem dJ2_getChar_3b067_11 : decode cJ2_getChar_3b067 11 = .ok (.aload_n 0, 1) := by decide +kernel
theorem dJ2_getChar_3b067_12 : decode cJ2_getChar_3b067 12 = .ok (.invokestatic 48, 3) := by decide +kernel
theorem dJ2_getChar_3b067_15 : decode cJ2_getChar_3b067 15 = .ok (.if_icmp .lt 13, 3) := by decide +kernel
theorem dJ2_getChar_3b067_18 : decode cJ2_getChar_3b067 18 = .ok (.new 52, 3) := by decide +kernel
theorem dJ2_getChar_3b067_21 : decode cJ2_getChar_3b067 21 = .ok (.dup, 1) := by decide +kernel
theorem dJ2_getChar_3b067_22 : decode cJ2_getChar_3b067 22 = .ok (.ldc 54, 2) := by decide +kernel
theorem dJ2_getChar_3b067_24 : decode cJ2_getChar_3b067 24 = .ok (.invokespecial 56, 3) := by decide +kernel
theorem dJ2_getChar_3b067_27 : decode cJ2_getChar_3b067 27 = .ok (.athrow, 1) := by decide +kernel
theorem dJ2_getChar_3b067_28 : decode cJ2_getChar_3b067 28 = .ok (.iload_n 1, 1) := by decide +kernel
theorem dJ2_getChar_3b067_29 : decode cJ2_getChar_3b067 29 = .ok (.iconst 1, 1) := by decide +kernel
theorem dJ2_getChar_3b067_30 : decode cJ2_getChar_3b067 30 = .ok (.ishl, 1) := by decide +kernel
theorem dJ2_getChar_3b067_31 : decode cJ2_getChar_3b067 31 = .ok (.istore_n 1, 1) := by decide +kernel
theorem dJ2_getChar_3b067_32 : decode cJ2_getChar_3b067 32 = .ok (.aload_n 0, 1) := by decide +kernel
theorem dJ2_getChar_3b067_33 : decode cJ2_getChar_3b067 33 = .ok (.iload_n 1, 1) := by decide +kernel
theorem dJ2_getChar_3b067_34 : decode cJ2_getChar_3b067 34 = .ok (.iinc 1 1, 3) := by decide +kernel
theorem dJ2_getChar_3b067_37 : decode cJ2_getChar_3b067 37 = .ok (.baload, 1) := by decide +kernel
theorem dJ2_getChar_3b067_38 : decode cJ2_getChar_3b067 38 = .ok (.sipush 255, 3) := by decide +kernel
theorem dJ2_getChar_3b067_41 : decode cJ2_getChar_3b067 41 = .ok (.iand, 1) := by decide +kernel
theorem dJ2_getChar_3b067_42 : decode cJ2_getChar_3b067 42 = .ok (.getstatic 59, 3) := by decide +kernel
theorem dJ2_getChar_3b067_45 : decode cJ2_getChar_3b067 45 = .ok (.ishl, 1) := by decide +kernel
theorem dJ2_getChar_3b067_46 : decode cJ2_getChar_3b067 46 = .ok (.aload_n 0, 1) := by decide +kernel
theorem dJ2_getChar_3b067_47 : decode cJ2_getChar_3b067 47 = .ok (.iload_n 1, 1) := by decide +kernel
theorem dJ2_getChar_3b067_48 : decode cJ2_getChar_3b067 48 = .ok (.baload, 1) := by decide +kernel
theorem dJ2_getChar_3b067_49 : decode cJ2_getChar_3b067 49 = .ok (.sipush 255, 3) := by decide +kernel
theorem dJ2_getChar_3b067_52 : decode cJ2_getChar_3b067 52 = .ok (.iand, 1) := by decide +kernel
theorem dJ2_getChar_3b067_53 : decode cJ2_getChar_3b067 53 = .ok (.getstatic 63, 3) := by decide +kernel
theorem dJ2_getChar_3b067_56 : decode cJ2_getChar_3b067 56 = .ok (.ishl, 1) := by decide +kernel
theorem dJ2_getChar_3b067_57 : decode cJ2_getChar_3b067 57 = .ok (.ior, 1) := by decide +kernel
theorem dJ2_getChar_3b067_58 : decode cJ2_getChar_3b067 58 = .ok (.i2c, 1) := by decide +kernel
theorem dJ2_getChar_3b067_59 : decode cJ2_getChar_3b067 59 = .ok (.ireturn, 1) := by decide +kernel
theorem dJ2_length_9d52b_0 : decode cJ2_length_9d52b 0 = .ok (.aload_n 0, 1) := by decide +kernel
theorem dJ2_length_9d52b_1 : decode cJ2_length_9d52b 1 = .ok (.arraylength, 1) := by decide +kernel
theorem dJ2_length_9d52b_2 : decode cJ2_length_9d52b 2 = .ok (.iconst 1, 1) := by decide +kernel
theorem dJ2_length_9d52b_3 : decode cJ2_length_9d52b 3 = .ok (.ishr, 1) := by decide +kernel
theorem dJ2_length_9d52b_4 : decode cJ2_length_9d52b 4 = .ok (.ireturn, 1) := by decide +kernel
theorem dJ2_indexOf_4cfef_0 : decode cJ2_indexOf_4cfef 0 = .ok (.iload_n 2, 1) := by decide +kernel
theorem dJ2_indexOf_4cfef_1 : decode cJ2_indexOf_4cfef 1 = .ok (.iconst 0, 1) := by decide +kernel
theorem dJ2_indexOf_4cfef_2 : decode cJ2_indexOf_4cfef 2 = .ok (.invokestatic 224, 3) := by decide +kernel
theorem dJ2_indexOf_4cfef_5 : decode cJ2_indexOf_4cfef 5 = .ok (.istore_n 2, 1) := by decide +kernel
theorem dJ2_indexOf_4cfef_6 : decode cJ2_indexOf_4cfef 6 = .ok (.iload_n 3, 1) := by decide +kernel
theorem dJ2_indexOf_4cfef_7 : decode cJ2_indexOf_4cfef 7 = .ok (.aload_n 0, 1) := by decide +kernel
theorem dJ2_indexOf_4cfef_8 : decode cJ2_indexOf_4cfef 8 = .ok (.arraylength, 1) := by decide +kernel
theorem dJ2_indexOf_4cfef_9 : decode cJ2_indexOf_4cfef 9 = .ok (.iconst 1, 1) := by decide +kernel
theorem dJ2_indexOf_4cfef_10 : decode cJ2_indexOf_4cfef 10 = .ok (.ishr, 1) := by decide +kernel
theorem dJ2_indexOf_4cfef_11 : decode cJ2_indexOf_4cfef 11 = .ok (.invokestatic 183, 3) := by decide +kernel
theorem dJ2_indexOf_4cfef_14 : decode cJ2_indexOf_4cfef 14 = .ok (.istore_n 3, 1) := by decide +kernel
theorem dJ2_indexOf_4cfef_15 : decode cJ2_indexOf_4cfef 15 = .ok (.iload_n 2, 1) := by decide +kernel
theorem dJ2_indexOf_4cfef_16 : decode cJ2_indexOf_4cfef 16 = .ok (.iload_n 3, 1) := by decide +kernel
theorem dJ2_indexOf_4cfef_17 : decode cJ2_indexOf_4cfef 17 = .ok (.if_icmp .lt 5, 3) := by decide +kernel
theorem dJ2_indexOf_4cfef_20 : decode cJ2_indexOf_4cfef 20 = .ok (.iconst (-1), 1) := by decide +kernel
theorem dJ2_indexOf_4cfef_21 : decode cJ2_indexOf_4cfef 21 = .ok (.ireturn, 1) := by decide +kernel
theorem dJ2_indexOf_4cfef_22 : decode cJ2_indexOf_4cfef 22 = .ok (.iload_n 1, 1) := by decide +kernel
theorem dJ2_indexOf_4cfef_23 : decode cJ2_indexOf_4cfef 23 = .ok (.ldc 227, 2) := by decide +kernel
theorem dJ2_indexOf_4cfef_25 : decode cJ2_indexOf_4cfef 25 = .ok (.if_icmp .ge 11, 3) := by decide +kernel
theorem dJ2_indexOf_4cfef_28 : decode cJ2_indexOf_4cfef 28 = .ok (.aload_n 0, 1) := by decide +kernel
theorem dJ2_indexOf_4cfef_29 : decode cJ2_indexOf_4cfef 29 = .ok (.iload_n 1, 1) := by decide +kernel
theorem dJ2_indexOf_4cfef_30 : decode cJ2_indexOf_4cfef 30 = .ok (.iload_n 2, 1) := by decide +kernel
theorem dJ2_indexOf_4cfef_31 : decode cJ2_indexOf_4cfef 31 = .ok (.iload_n 3, 1) := by decide +kernel
theorem dJ2_indexOf_4cfef_32 : decode cJ2_indexOf_4cfef 32 = .ok (.invokestatic 228, 3) := by decide +kernel
theorem dJ2_indexOf_4cfef_35 : decode cJ2_indexOf_4cfef 35 = .ok (.ireturn, 1) := by decide +kernel
theorem dJ2_indexOf_4cfef_36 : decode cJ2_indexOf_4cfef 36 = .ok (.aload_n 0, 1) := by decide +kernel
theorem dJ2_indexOf_4cfef_37 : decode cJ2_indexOf_4cfef 37 = .ok (.iload_n 1, 1) := by decide +kernel
theorem dJ2_indexOf_4cfef_38 : decode cJ2_indexOf_4cfef 38 = .ok (.iload_n 2, 1) := by decide +kernel
theorem dJ2_indexOf_4cfef_39 : decode cJ2_indexOf_4cfef 39 = .ok (.iload_n 3, 1) := by decide +kernel
theorem dJ2_indexOf_4cfef_40 : decode cJ2_indexOf_4cfef 40 = .ok (.invokestatic 232, 3) := by decide +kernel
theorem dJ2_indexOf_4cfef_43 : decode cJ2_indexOf_4cfef 43 = .ok (.ireturn, 1) := by decide +kernel
theorem dJ2_indexOfChar_4cfef_0 : decode cJ2_indexOfChar_4cfef 0 = .ok (.iload_n 2, 1) := by decide +kernel
theorem dJ2_indexOfChar_4cfef_1 : decode cJ2_indexOfChar_4cfef 1 = .ok (.iload_n 3, 1) := by decide +kernel
theorem dJ2_indexOfChar_4cfef_2 : decode cJ2_indexOfChar_4cfef 2 = .ok (.aload_n 0, 1) := by decide +kernel
theorem dJ2_indexOfChar_4cfef_3 : decode cJ2_indexOfChar_4cfef 3 = .ok (.invokestatic 96, 3) := by decide +kernel
theorem dJ2_indexOfChar_4cfef_6 : decode cJ2_indexOfChar_4cfef 6 = .ok (.aload_n 0, 1) := by decide +kernel
theorem dJ2_indexOfChar_4cfef_7 : decode cJ2_indexOfChar_4cfef 7 = .ok (.iload_n 1, 1) := by decide +kernel
theorem dJ2_indexOfChar_4cfef_8 : decode cJ2_indexOfChar_4cfef 8 = .ok (.iload_n 2, 1) := by decide +kernel
theorem dJ2_indexOfChar_4cfef_9 : decode cJ2_indexOfChar_4cfef 9 = .ok (.iload_n 3, 1) := by decide +kernel
theorem dJ2_indexOfChar_4cfef_10 : decode cJ2_indexOfChar_4cfef 10 = .ok (.invokestatic 244, 3) := by decide +kernel
theorem dJ2_indexOfChar_4cfef_13 : decode cJ2_indexOfChar_4cfef 13 = .ok (.ireturn, 1) := by decide +kernel
theorem dJ2_indexOfCharUnsafe_4cfef_0 : decode cJ2_indexOfCharUnsafe_4cfef 0 = .ok (.iload_n 2, 1) := by decide +kernel
theorem dJ2_indexOfCharUnsafe_4cfef_1 : decode cJ2_indexOfCharUnsafe_4cfef 1 = .ok (.istore 4, 2) := by decide +kernel
theorem dJ2_indexOfCharUnsafe_4cfef_3 : decode cJ2_indexOfCharUnsafe_4cfef 3 = .ok (.iload 4, 2) := by decide +kernel
theorem dJ2_indexOfCharUnsafe_4cfef_5 : decode cJ2_indexOfCharUnsafe_4cfef 5 = .ok (.iload_n 3, 1) := by decide +kernel
theorem dJ2_indexOfCharUnsafe_4cfef_6 : decode cJ2_indexOfCharUnsafe_4cfef 6 = .ok (.if_icmp .ge 22, 3) := by decide +kernel
theorem dJ2_indexOfCharUnsafe_4cfef_9 : decode cJ2_indexOfCharUnsafe_4cfef 9 = .ok (.aload_n 0, 1) := by decide +kernel
theorem dJ2_indexOfCharUnsafe_4cfef_10 : decode cJ2_indexOfCharUnsafe_4cfef 10 = .ok (.iload 4, 2) := by decide +kernel
theorem dJ2_indexOfCharUnsafe_4cfef_12 : decode cJ2_indexOfCharUnsafe_4cfef 12 = .ok (.invokestatic 71, 3) := by decide +kernel
theorem dJ2_indexOfCharUnsafe_4cfef_15 : decode cJ2_indexOfCharUnsafe_4cfef 15 = .ok (.iload_n 1, 1) := by decide +kernel
theorem dJ2_indexOfCharUnsafe_4cfef_16 : decode cJ2_indexOfCharUnsafe_4cfef 16 = .ok (.if_icmp .ne 6, 3) := by decide +kernel
theorem dJ2_indexOfCharUnsafe_4cfef_19 : decode cJ2_indexOfCharUnsafe_4cfef 19 = .ok (.iload 4, 2) := by decide +kernel
theorem dJ2_indexOfCharUnsafe_4cfef_21 : decode cJ2_indexOfCharUnsafe_4cfef 21 = .ok (.ireturn, 1) := by decide +kernel
theorem dJ2_indexOfCharUnsafe_4cfef_22 : decode cJ2_indexOfCharUnsafe_4cfef 22 = .ok (.iinc 4 1, 3) := by decide +kernel
theorem dJ2_indexOfCharUnsafe_4cfef_25 : decode cJ2_indexOfCharUnsafe_4cfef 25 = .ok (.goto (-22), 3) := by decide +kernel
theorem dJ2_indexOfCharUnsafe_4cfef_28 : decode cJ2_indexOfCharUnsafe_4cfef 28 = .ok (.iconst (-1), 1) := by decide +kernel
theorem dJ2_indexOfCharUnsafe_4cfef_29 : decode cJ2_indexOfCharUnsafe_4cfef 29 = .ok (.ireturn, 1) := by decide +kernel
theorem dJ2_indexOfSupplementary_4cfef_0 : decode cJ2_indexOfSupplementary_4cfef 0 = .ok (.iload_n 1, 1) := by decide +kernel
theorem dJ2_indexOfSupplementary_4cfef_1 : decode cJ2_indexOfSupplementary_4cfef 1 = .ok (.invokestatic 164, 3) := by decide +kernel
theorem dJ2_indexOfSupplementary_4cfef_4 : decode cJ2_indexOfSupplementary_4cfef 4 = .ok (.ifCond .eq 65, 3) := by decide +kernel
theorem dJ2_indexOfSupplementary_4cfef_7 : decode cJ2_indexOfSupplementary_4cfef 7 = .ok (.iload_n 1, 1) := by decide +kernel
theorem dJ2_indexOfSupplementary_4cfef_8 : decode cJ2_indexOfSupplementary_4cfef 8 = .ok (.invokestatic 157, 3) := by decide +kernel
theorem dJ2_indexOfSupplementary_4cfef_11 : decode cJ2_indexOfSupplementary_4cfef 11 = .ok (.istore 4, 2) := by decide +kernel
theorem dJ2_indexOfSupplementary_4cfef_13 : decode cJ2_indexOfSupplementary_4cfef 13 = .ok (.iload_n 1, 1) := by decide +kernel
theorem dJ2_indexOfSupplementary_4cfef_14 : decode cJ2_indexOfSupplementary_4cfef 14 = .ok (.invokestatic 161, 3) := by decide +kernel
theorem dJ2_indexOfSupplementary_4cfef_17 : decode cJ2_indexOfSupplementary_4cfef 17 = .ok (.istore 5, 2) := by decide +kernel
theorem dJ2_indexOfSupplementary_4cfef_19 : decode cJ2_indexOfSupplementary_4cfef 19 = .ok (.iload_n 2, 1) := by decide +kernel
theorem dJ2_indexOfSupplementary_4cfef_20 : decode cJ2_indexOfSupplementary_4cfef 20 = .ok (.iload_n 3, 1) := by decide +kernel
theorem dJ2_indexOfSupplementary_4cfef_21 : decode cJ2_indexOfSupplementary_4cfef 21 = .ok (.aload_n 0, 1) := by decide +kernel
theorem dJ2_indexOfSupplementary_4cfef_22 : decode cJ2_indexOfSupplementary_4cfef 22 = .ok (.invokestatic 96, 3) := by decide +kernel
theorem dJ2_indexOfSupplementary_4cfef_25 : decode cJ2_indexOfSupplementary_4cfef 25 = .ok (.iload_n 2, 1) := by decide +kernel
theorem dJ2_indexOfSupplementary_4cfef_26 : decode cJ2_indexOfSupplementary_4cfef 26 = .ok (.istore 6, 2) := by decide +kernel
theorem dJ2_indexOfSupplementary_4cfef_28 : decode cJ2_indexOfSupplementary_4cfef 28 = .ok (.iload 6, 2) := by decide +kernel
theorem dJ2_indexOfSupplementary_4cfef_30 : decode cJ2_indexOfSupplementary_4cfef 30 = .ok (.iload_n 3, 1) := by decide +kernel
theorem dJ2_indexOfSupplementary_4cfef_31 : decode cJ2_indexOfSupplementary_4cfef 31 = .ok (.iconst 1, 1) := by decide +kernel
theorem dJ2_indexOfSupplementary_4cfef_32 : decode cJ2_indexOfSupplementary_4cfef 32 = .ok (.isub, 1) := by decide +kernel
theorem dJ2_indexOfSupplementary_4cfef_33 : decode cJ2_indexOfSupplementary_4cfef 33 = .ok (.if_icmp .ge 36, 3) := by decide +kernel
theorem dJ2_indexOfSupplementary_4cfef_36 : decode cJ2_indexOfSupplementary_4cfef 36 = .ok (.aload_n 0, 1) := by decide +kernel
theorem dJ2_indexOfSupplementary_4cfef_37 : decode cJ2_indexOfSupplementary_4cfef 37 = .ok (.iload 6, 2) := by decide +kernel
theorem dJ2_indexOfSupplementary_4cfef_39 : decode cJ2_indexOfSupplementary_4cfef 39 = .ok (.invokestatic 71, 3) := by decide +kernel
theorem dJ2_indexOfSupplementary_4cfef_42 : decode cJ2_indexOfSupplementary_4cfef 42 = .ok (.iload 4, 2) := by decide +kernel
theorem dJ2_indexOfSupplementary_4cfef_44 : decode cJ2_indexOfSupplementary_4cfef 44 = .ok (.if_icmp .ne 19, 3) := by decide +kernel
theorem dJ2_indexOfSupplementary_4cfef_47 : decode cJ2_indexOfSupplementary_4cfef 47 = .ok (.aload_n 0, 1) := by decide +kernel
theorem dJ2_indexOfSupplementary_4cfef_48 : decode cJ2_indexOfSupplementary_4cfef 48 = .ok (.iload 6, 2) := by decide +kernel
theorem dJ2_indexOfSupplementary_4cfef_50 : decode cJ2_indexOfSupplementary_4cfef 50 = .ok (.iconst 1, 1) := by decide +kernel
theorem dJ2_indexOfSupplementary_4cfef_51 : decode cJ2_indexOfSupplementary_4cfef 51 = .ok (.iadd, 1) := by decide +kernel
theorem dJ2_indexOfSupplementary_4cfef_52 : decode cJ2_indexOfSupplementary_4cfef 52 = .ok (.invokestatic 71, 3) := by decide +kernel
theorem dJ2_indexOfSupplementary_4cfef_55 : decode cJ2_indexOfSupplementary_4cfef 55 = .ok (.iload 5, 2) := by decide +kernel
theorem dJ2_indexOfSupplementary_4cfef_57 : decode cJ2_indexOfSupplementary_4cfef 57 = .ok (.if_icmp .ne 6, 3) := by decide +kernel
theorem dJ2_indexOfSupplementary_4cfef_60 : decode cJ2_indexOfSupplementary_4cfef 60 = .ok (.iload 6, 2) := by decide +kernel
theorem dJ2_indexOfSupplementary_4cfef_62 : decode cJ2_indexOfSupplementary_4cfef 62 = .ok (.ireturn, 1) := by decide +kernel
theorem dJ2_indexOfSupplementary_4cfef_63 : decode cJ2_indexOfSupplementary_4cfef 63 = .ok (.iinc 6 1, 3) := by decide +kernel
theorem dJ2_indexOfSupplementary_4cfef_66 : decode cJ2_indexOfSupplementary_4cfef 66 = .ok (.goto (-38), 3) := by decide +kernel
theorem dJ2_indexOfSupplementary_4cfef_69 : decode cJ2_indexOfSupplementary_4cfef 69 = .ok (.iconst (-1), 1) := by decide +kernel
theorem dJ2_indexOfSupplementary_4cfef_70 : decode cJ2_indexOfSupplementary_4cfef 70 = .ok (.ireturn, 1) := by decide +kernel
theorem dJ2_charAt_3b067_0 : decode cJ2_charAt_3b067 0 = .ok (.iload_n 1, 1) := by decide +kernel
theorem dJ2_charAt_3b067_1 : decode cJ2_charAt_3b067 1 = .ok (.aload_n 0, 1) := by decide +kernel
theorem dJ2_charAt_3b067_2 : decode cJ2_charAt_3b067 2 = .ok (.invokestatic 67, 3) := by decide +kernel
theorem dJ2_charAt_3b067_5 : decode cJ2_charAt_3b067 5 = .ok (.aload_n 0, 1) := by decide +kernel
theorem dJ2_charAt_3b067_6 : decode cJ2_charAt_3b067 6 = .ok (.iload_n 1, 1) := by decide +kernel
theorem dJ2_charAt_3b067_7 : decode cJ2_charAt_3b067 7 = .ok (.invokestatic 71, 3) := by decide +kernel
theorem dJ2_charAt_3b067_10 : decode cJ2_charAt_3b067 10 = .ok (.ireturn, 1) := by decide +kernel
theorem dJ2_checkIndex_2214a_0 : decode cJ2_checkIndex_2214a 0 = .ok (.iload_n 0, 1) := by decide +kernel
theorem dJ2_checkIndex_2214a_1 : decode cJ2_checkIndex_2214a 1 = .ok (.aload_n 1, 1) := by decide +kernel
theorem dJ2_checkIndex_2214a_2 : decode cJ2_checkIndex_2214a 2 = .ok (.invokestatic 48, 3) := by decide +kernel
theorem dJ2_checkIndex_2214a_5 : decode cJ2_checkIndex_2214a 5 = .ok (.invokestatic 414, 3) := by decide +kernel
theorem dJ2_checkIndex_2214a_8 : decode cJ2_checkIndex_2214a 8 = .ok (.return_, 1) := by decide +kernel
theorem dJ2_checkBoundsBeginEnd_d044e_0 : decode cJ2_checkBoundsBeginEnd_d044e 0 = .ok (.iload_n 0, 1) := by decide +kernel
theorem dJ2_checkBoundsBeginEnd_d044e_1 : decode cJ2_checkBoundsBeginEnd_d044e 1 = .ok (.iload_n 1, 1) := by decide +kernel
theorem dJ2_checkBoundsBeginEnd_d044e_2 : decode cJ2_checkBoundsBeginEnd_d044e 2 = .ok (.aload_n 2, 1) := by decide +kernel
theorem dJ2_checkBoundsBeginEnd_d044e_3 : decode cJ2_checkBoundsBeginEnd_d044e 3 = .ok (.invokestatic 48, 3) := by decide +kernel
theorem dJ2_checkBoundsBeginEnd_d044e_6 : decode cJ2_checkBoundsBeginEnd_d044e 6 = .ok (.invokestatic 241, 3) := by decide +kernel
theorem dJ2_checkBoundsBeginEnd_d044e_9 : decode cJ2_checkBoundsBeginEnd_d044e 9 = .ok (.return_, 1) := by decide +kernel
theorem dJ3_checkIndex_8e157_0 : decode cJ3_checkIndex_8e157 0 = .ok (.iload_n 0, 1) := by decide +kernel
theorem dJ3_checkIndex_8e157_1 : decode cJ3_checkIndex_8e157 1 = .ok (.ifCond .lt 8, 3) := by decide +kernel
theorem dJ3_checkIndex_8e157_4 : decode cJ3_checkIndex_8e157 4 = .ok (.iload_n 0, 1) := by decide +kernel
theorem dJ3_checkIndex_8e157_5 : decode cJ3_checkIndex_8e157 5 = .ok (.iload_n 1, 1) := by decide +kernel
theorem dJ3_checkIndex_8e157_6 : decode cJ3_checkIndex_8e157 6 = .ok (.if_icmp .lt 10, 3) := by decide +kernel
theorem dJ3_checkIndex_8e157_9 : decode cJ3_checkIndex_8e157 9 = .ok (.aload_n 2, 1) := by decide +kernel
theorem dJ3_checkIndex_8e157_10 : decode cJ3_checkIndex_8e157 10 = .ok (.iload_n 0, 1) := by decide +kernel
theorem dJ3_checkIndex_8e157_11 : decode cJ3_checkIndex_8e157 11 = .ok (.iload_n 1, 1) := by decide +kernel
theorem dJ3_checkIndex_8e157_12 : decode cJ3_checkIndex_8e157 12 = .ok (.invokestatic 95, 3) := by decide +kernel
theorem dJ3_checkIndex_8e157_15 : decode cJ3_checkIndex_8e157 15 = .ok (.athrow, 1) := by decide +kernel
theorem dJ3_checkIndex_8e157_16 : decode cJ3_checkIndex_8e157 16 = .ok (.iload_n 0, 1) := by decide +kernel
theorem dJ3_checkIndex_8e157_17 : decode cJ3_checkIndex_8e157 17 = .ok (.ireturn, 1) := by decide +kernel
theorem dJ3_checkFromToIndex_8c36e_0 : decode cJ3_checkFromToIndex_8c36e 0 = .ok (.iload_n 0, 1) := by decide +kernel
theorem dJ3_checkFromToIndex_8c36e_1 : decode cJ3_checkFromToIndex_8c36e 1 = .ok (.ifCond .lt 13, 3) := by decide +kernel
theorem dJ3_checkFromToIndex_8c36e_4 : decode cJ3_checkFromToIndex_8c36e 4 = .ok (.iload_n 0, 1) := by decide +kernel
theorem dJ3_checkFromToIndex_8c36e_5 : decode cJ3_checkFromToIndex_8c36e 5 = .ok (.iload_n 1, 1) := by decide +kernel
theorem dJ3_checkFromToIndex_8c36e_6 : decode cJ3_checkFromToIndex_8c36e 6 = .ok (.if_icmp .gt 8, 3) := by decide +kernel
theorem dJ3_checkFromToIndex_8c36e_9 : decode cJ3_checkFromToIndex_8c36e 9 = .ok (.iload_n 1, 1) := by decide +kernel
theorem dJ3_checkFromToIndex_8c36e_10 : decode cJ3_checkFromToIndex_8c36e 10 = .ok (.iload_n 2, 1) := by decide +kernel
theorem dJ3_checkFromToIndex_8c36e_11 : decode cJ3_checkFromToIndex_8c36e 11 = .ok (.if_icmp .le 11, 3) := by decide +kernel
theorem dJ3_checkFromToIndex_8c36e_14 : decode cJ3_checkFromToIndex_8c36e 14 = .ok (.aload_n 3, 1) := by decide +kernel
theorem dJ3_checkFromToIndex_8c36e_15 : decode cJ3_checkFromToIndex_8c36e 15 = .ok (.iload_n 0, 1) := by decide +kernel
theorem dJ3_checkFromToIndex_8c36e_16 : decode cJ3_checkFromToIndex_8c36e 16 = .ok (.iload_n 1, 1) := by decide +kernel
theorem dJ3_checkFromToIndex_8c36e_17 : decode cJ3_checkFromToIndex_8c36e 17 = .ok (.iload_n 2, 1) := by decide +kernel
theorem dJ3_checkFromToIndex_8c36e_18 : decode cJ3_checkFromToIndex_8c36e 18 = .ok (.invokestatic 99, 3) := by decide +kernel
theorem dJ3_checkFromToIndex_8c36e_21 : decode cJ3_checkFromToIndex_8c36e 21 = .ok (.athrow, 1) := by decide +kernel
theorem dJ3_checkFromToIndex_8c36e_22 : decode cJ3_checkFromToIndex_8c36e 22 = .ok (.iload_n 0, 1) := by decide +kernel
theorem dJ3_checkFromToIndex_8c36e_23 : decode cJ3_checkFromToIndex_8c36e 23 = .ok (.ireturn, 1) := by decide +kernel
theorem dL_rests_0 : decode cL_rests 0 = .ok (.aload 5, 2) := by decide +kernel
theorem dL_rests_2 : decode cL_rests 2 = .ok (.iconst 0, 1) := by decide +kernel
theorem dL_rests_3 : decode cL_rests 3 = .ok (.aload_n 0, 1) := by decide +kernel
theorem dL_rests_4 : decode cL_rests 4 = .ok (.iload_n 1, 1) := by decide +kernel
theorem dL_rests_5 : decode cL_rests 5 = .ok (.iload_n 2, 1) := by decide +kernel
theorem dL_rests_6 : decode cL_rests 6 = .ok (.iload_n 3, 1) := by decide +kernel
theorem dL_rests_7 : decode cL_rests 7 = .ok (.iload 4, 2) := by decide +kernel
theorem dL_rests_9 : decode cL_rests 9 = .ok (.invokevirtual 7, 3) := by decide +kernel
theorem dL_rests_12 : decode cL_rests 12 = .ok (.i2l, 1) := by decide +kernel
theorem dL_rests_13 : decode cL_rests 13 = .ok (.lastore, 1) := by decide +kernel
theorem dL_rests_14 : decode cL_rests 14 = .ok (.goto 7, 3) := by decide +kernel
theorem dL_rests_17 : decode cL_rests 17 = .ok (.astore 6, 2) := by decide +kernel
theorem dL_rests_19 : decode cL_rests 19 = .ok (.iconst 1, 1) := by decide +kernel
theorem dL_rests_20 : decode cL_rests 20 = .ok (.ireturn, 1) := by decide +kernel
theorem dL_rests_21 : decode cL_rests 21 = .ok (.iconst 0, 1) := by decide +kernel
theorem dL_rests_22 : decode cL_rests 22 = .ok (.ireturn, 1) := by decide +kernel
theorem dL_law_0 : decode cL_law 0 = .ok (.new 8, 3) := by decide +kernel
theorem dL_law_3 : decode cL_law 3 = .ok (.dup, 1) := by decide +kernel
theorem dL_law_4 : decode cL_law 4 = .ok (.invokespecial 15, 3) := by decide +kernel
theorem dL_law_7 : decode cL_law 7 = .ok (.astore_n 1, 1) := by decide +kernel
theorem dL_law_8 : decode cL_law 8 = .ok (.new 16, 3) := by decide +kernel
theorem dL_law_11 : decode cL_law 11 = .ok (.dup, 1) := by decide +kernel
theorem dL_law_12 : decode cL_law 12 = .ok (.invokespecial 18, 3) := by decide +kernel
theorem dL_law_15 : decode cL_law 15 = .ok (.astore_n 2, 1) := by decide +kernel
theorem dL_law_16 : decode cL_law 16 = .ok (.iconst 1, 1) := by decide +kernel
theorem dL_law_17 : decode cL_law 17 = .ok (.newarray .long, 2) := by decide +kernel
theorem dL_law_19 : decode cL_law 19 = .ok (.astore_n 3, 1) := by decide +kernel
theorem dL_law_20 : decode cL_law 20 = .ok (.iconst 0, 1) := by decide +kernel
theorem dL_law_21 : decode cL_law 21 = .ok (.istore 4, 2) := by decide +kernel
theorem dL_law_23 : decode cL_law 23 = .ok (.iload 4, 2) := by decide +kernel
theorem dL_law_25 : decode cL_law 25 = .ok (.aload_n 0, 1) := by decide +kernel
theorem dL_law_26 : decode cL_law 26 = .ok (.arraylength, 1) := by decide +kernel
theorem dL_law_27 : decode cL_law 27 = .ok (.bipush 7, 2) := by decide +kernel
theorem dL_law_29 : decode cL_law 29 = .ok (.isub, 1) := by decide +kernel
theorem dL_law_30 : decode cL_law 30 = .ok (.if_icmp .gt 1449, 3) := by decide +kernel
theorem dL_law_33 : decode cL_law 33 = .ok (.aload_n 0, 1) := by decide +kernel
theorem dL_law_34 : decode cL_law 34 = .ok (.iload 4, 2) := by decide +kernel
theorem dL_law_36 : decode cL_law 36 = .ok (.iaload, 1) := by decide +kernel
theorem dL_law_37 : decode cL_law 37 = .ok (.bipush 63, 2) := by decide +kernel
theorem dL_law_39 : decode cL_law 39 = .ok (.iand, 1) := by decide +kernel
theorem dL_law_40 : decode cL_law 40 = .ok (.tableswitch 1433 0 39 #[176, 323, 336, 349, 386, 435, 460, 497, 534, 559, 584, 609, 622, 635, 660, 685, 698, 735, 772, 809, 834, 887, 900, 913, 938, 963, 988, 1001, 1014, 1039, 1064, 1089, 1102, 1115, 1152, 1189, 1214, 1306, 1355, 1408], 176) := by decide +kernel
theorem dL_law_216 : decode cL_law 216 = .ok (.aload_n 1, 1) := by decide +kernel
theorem dL_law_217 : decode cL_law 217 = .ok (.aload_n 0, 1) := by decide +kernel
theorem dL_law_218 : decode cL_law 218 = .ok (.iload 4, 2) := by decide +kernel
theorem dL_law_220 : decode cL_law 220 = .ok (.iconst 1, 1) := by decide +kernel
theorem dL_law_221 : decode cL_law 221 = .ok (.iadd, 1) := by decide +kernel
theorem dL_law_222 : decode cL_law 222 = .ok (.iaload, 1) := by decide +kernel
theorem dL_law_223 : decode cL_law 223 = .ok (.i2l, 1) := by decide +kernel
theorem dL_law_224 : decode cL_law 224 = .ok (.bipush 32, 2) := by decide +kernel
theorem dL_law_226 : decode cL_law 226 = .ok (.lshl, 1) := by decide +kernel
theorem dL_law_227 : decode cL_law 227 = .ok (.aload_n 0, 1) := by decide +kernel
theorem dL_law_228 : decode cL_law 228 = .ok (.iload 4, 2) := by decide +kernel
theorem dL_law_230 : decode cL_law 230 = .ok (.iconst 2, 1) := by decide +kernel
theorem dL_law_231 : decode cL_law 231 = .ok (.iadd, 1) := by decide +kernel
theorem dL_law_232 : decode cL_law 232 = .ok (.iaload, 1) := by decide +kernel
theorem dL_law_233 : decode cL_law 233 = .ok (.i2l, 1) := by decide +kernel
theorem dL_law_234 : decode cL_law 234 = .ok (.ldc2_w 19, 3) := by decide +kernel
theorem dL_law_237 : decode cL_law 237 = .ok (.land, 1) := by decide +kernel
theorem dL_law_238 : decode cL_law 238 = .ok (.lor, 1) := by decide +kernel
theorem dL_law_239 : decode cL_law 239 = .ok (.aload_n 0, 1) := by decide +kernel
theorem dL_law_240 : decode cL_law 240 = .ok (.iload 4, 2) := by decide +kernel
theorem dL_law_242 : decode cL_law 242 = .ok (.iconst 3, 1) := by decide +kernel
theorem dL_law_243 : decode cL_law 243 = .ok (.iadd, 1) := by decide +kernel
theorem dL_law_244 : decode cL_law 244 = .ok (.iaload, 1) := by decide +kernel
theorem dL_law_245 : decode cL_law 245 = .ok (.i2l, 1) := by decide +kernel
theorem dL_law_246 : decode cL_law 246 = .ok (.bipush 32, 2) := by decide +kernel
theorem dL_law_248 : decode cL_law 248 = .ok (.lshl, 1) := by decide +kernel
theorem dL_law_249 : decode cL_law 249 = .ok (.aload_n 0, 1) := by decide +kernel
theorem dL_law_250 : decode cL_law 250 = .ok (.iload 4, 2) := by decide +kernel
theorem dL_law_252 : decode cL_law 252 = .ok (.iconst 4, 1) := by decide +kernel
theorem dL_law_253 : decode cL_law 253 = .ok (.iadd, 1) := by decide +kernel
theorem dL_law_254 : decode cL_law 254 = .ok (.iaload, 1) := by decide +kernel
theorem dL_law_255 : decode cL_law 255 = .ok (.i2l, 1) := by decide +kernel
theorem dL_law_256 : decode cL_law 256 = .ok (.ldc2_w 19, 3) := by decide +kernel
theorem dL_law_259 : decode cL_law 259 = .ok (.land, 1) := by decide +kernel
theorem dL_law_260 : decode cL_law 260 = .ok (.lor, 1) := by decide +kernel
theorem dL_law_261 : decode cL_law 261 = .ok (.aload_n 0, 1) := by decide +kernel
theorem dL_law_262 : decode cL_law 262 = .ok (.iload 4, 2) := by decide +kernel
theorem dL_law_264 : decode cL_law 264 = .ok (.iconst 5, 1) := by decide +kernel
theorem dL_law_265 : decode cL_law 265 = .ok (.iadd, 1) := by decide +kernel
theorem dL_law_266 : decode cL_law 266 = .ok (.iaload, 1) := by decide +kernel
theorem dL_law_267 : decode cL_law 267 = .ok (.i2l, 1) := by decide +kernel
theorem dL_law_268 : decode cL_law 268 = .ok (.bipush 32, 2) := by decide +kernel
theorem dL_law_270 : decode cL_law 270 = .ok (.lshl, 1) := by decide +kernel
theorem dL_law_271 : decode cL_law 271 = .ok (.aload_n 0, 1) := by decide +kernel
theorem dL_law_272 : decode cL_law 272 = .ok (.iload 4, 2) := by decide +kernel
theorem dL_law_274 : decode cL_law 274 = .ok (.bipush 6, 2) := by decide +kernel
theorem dL_law_276 : decode cL_law 276 = .ok (.iadd, 1) := by decide +kernel
theorem dL_law_277 : decode cL_law 277 = .ok (.iaload, 1) := by decide +kernel
theorem dL_law_278 : decode cL_law 278 = .ok (.i2l, 1) := by decide +kernel
theorem dL_law_279 : decode cL_law 279 = .ok (.ldc2_w 19, 3) := by decide +kernel
theorem dL_law_282 : decode cL_law 282 = .ok (.land, 1) := by decide +kernel
theorem dL_law_283 : decode cL_law 283 = .ok (.lor, 1) := by decide +kernel
theorem dL_law_284 : decode cL_law 284 = .ok (.invokevirtual 21, 3) := by decide +kernel
theorem dL_law_287 : decode cL_law 287 = .ok (.aload_n 2, 1) := by decide +kernel
theorem dL_law_288 : decode cL_law 288 = .ok (.aload_n 0, 1) := by decide +kernel
theorem dL_law_289 : decode cL_law 289 = .ok (.iload 4, 2) := by decide +kernel
theorem dL_law_291 : decode cL_law 291 = .ok (.iconst 1, 1) := by decide +kernel
theorem dL_law_292 : decode cL_law 292 = .ok (.iadd, 1) := by decide +kernel
theorem dL_law_293 : decode cL_law 293 = .ok (.iaload, 1) := by decide +kernel
theorem dL_law_294 : decode cL_law 294 = .ok (.i2l, 1) := by decide +kernel
theorem dL_law_295 : decode cL_law 295 = .ok (.bipush 32, 2) := by decide +kernel
theorem dL_law_297 : decode cL_law 297 = .ok (.lshl, 1) := by decide +kernel
theorem dL_law_298 : decode cL_law 298 = .ok (.aload_n 0, 1) := by decide +kernel
theorem dL_law_299 : decode cL_law 299 = .ok (.iload 4, 2) := by decide +kernel
theorem dL_law_301 : decode cL_law 301 = .ok (.iconst 2, 1) := by decide +kernel
theorem dL_law_302 : decode cL_law 302 = .ok (.iadd, 1) := by decide +kernel
theorem dL_law_303 : decode cL_law 303 = .ok (.iaload, 1) := by decide +kernel
theorem dL_law_304 : decode cL_law 304 = .ok (.i2l, 1) := by decide +kernel
theorem dL_law_305 : decode cL_law 305 = .ok (.ldc2_w 19, 3) := by decide +kernel
theorem dL_law_308 : decode cL_law 308 = .ok (.land, 1) := by decide +kernel
theorem dL_law_309 : decode cL_law 309 = .ok (.lor, 1) := by decide +kernel
theorem dL_law_310 : decode cL_law 310 = .ok (.aload_n 0, 1) := by decide +kernel
theorem dL_law_311 : decode cL_law 311 = .ok (.iload 4, 2) := by decide +kernel
theorem dL_law_313 : decode cL_law 313 = .ok (.iconst 3, 1) := by decide +kernel
theorem dL_law_314 : decode cL_law 314 = .ok (.iadd, 1) := by decide +kernel
theorem dL_law_315 : decode cL_law 315 = .ok (.iaload, 1) := by decide +kernel
theorem dL_law_316 : decode cL_law 316 = .ok (.i2l, 1) := by decide +kernel
theorem dL_law_317 : decode cL_law 317 = .ok (.bipush 32, 2) := by decide +kernel
theorem dL_law_319 : decode cL_law 319 = .ok (.lshl, 1) := by decide +kernel
theorem dL_law_320 : decode cL_law 320 = .ok (.aload_n 0, 1) := by decide +kernel
theorem dL_law_321 : decode cL_law 321 = .ok (.iload 4, 2) := by decide +kernel
theorem dL_law_323 : decode cL_law 323 = .ok (.iconst 4, 1) := by decide +kernel
theorem dL_law_324 : decode cL_law 324 = .ok (.iadd, 1) := by decide +kernel
theorem dL_law_325 : decode cL_law 325 = .ok (.iaload, 1) := by decide +kernel
theorem dL_law_326 : decode cL_law 326 = .ok (.i2l, 1) := by decide +kernel
theorem dL_law_327 : decode cL_law 327 = .ok (.ldc2_w 19, 3) := by decide +kernel
theorem dL_law_330 : decode cL_law 330 = .ok (.land, 1) := by decide +kernel
theorem dL_law_331 : decode cL_law 331 = .ok (.lor, 1) := by decide +kernel
theorem dL_law_332 : decode cL_law 332 = .ok (.aload_n 0, 1) := by decide +kernel
theorem dL_law_333 : decode cL_law 333 = .ok (.iload 4, 2) := by decide +kernel
theorem dL_law_335 : decode cL_law 335 = .ok (.iconst 5, 1) := by decide +kernel
theorem dL_law_336 : decode cL_law 336 = .ok (.iadd, 1) := by decide +kernel
theorem dL_law_337 : decode cL_law 337 = .ok (.iaload, 1) := by decide +kernel
theorem dL_law_338 : decode cL_law 338 = .ok (.i2l, 1) := by decide +kernel
theorem dL_law_339 : decode cL_law 339 = .ok (.bipush 32, 2) := by decide +kernel
theorem dL_law_341 : decode cL_law 341 = .ok (.lshl, 1) := by decide +kernel
theorem dL_law_342 : decode cL_law 342 = .ok (.aload_n 0, 1) := by decide +kernel
theorem dL_law_343 : decode cL_law 343 = .ok (.iload 4, 2) := by decide +kernel
theorem dL_law_345 : decode cL_law 345 = .ok (.bipush 6, 2) := by decide +kernel
theorem dL_law_347 : decode cL_law 347 = .ok (.iadd, 1) := by decide +kernel
theorem dL_law_348 : decode cL_law 348 = .ok (.iaload, 1) := by decide +kernel
theorem dL_law_349 : decode cL_law 349 = .ok (.i2l, 1) := by decide +kernel
theorem dL_law_350 : decode cL_law 350 = .ok (.ldc2_w 19, 3) := by decide +kernel
theorem dL_law_353 : decode cL_law 353 = .ok (.land, 1) := by decide +kernel
theorem dL_law_354 : decode cL_law 354 = .ok (.lor, 1) := by decide +kernel
theorem dL_law_355 : decode cL_law 355 = .ok (.invokevirtual 25, 3) := by decide +kernel
theorem dL_law_358 : decode cL_law 358 = .ok (.if_icmp .eq 1115, 3) := by decide +kernel
theorem dL_law_361 : decode cL_law 361 = .ok (.iconst 0, 1) := by decide +kernel
theorem dL_law_362 : decode cL_law 362 = .ok (.ireturn, 1) := by decide +kernel
theorem dL_law_363 : decode cL_law 363 = .ok (.aload_n 1, 1) := by decide +kernel
theorem dL_law_364 : decode cL_law 364 = .ok (.invokevirtual 26, 3) := by decide +kernel
theorem dL_law_367 : decode cL_law 367 = .ok (.aload_n 2, 1) := by decide +kernel
theorem dL_law_368 : decode cL_law 368 = .ok (.invokevirtual 30, 3) := by decide +kernel
theorem dL_law_371 : decode cL_law 371 = .ok (.if_icmp .eq 1102, 3) := by decide +kernel
theorem dL_law_374 : decode cL_law 374 = .ok (.iconst 0, 1) := by decide +kernel
theorem dL_law_375 : decode cL_law 375 = .ok (.ireturn, 1) := by decide +kernel
theorem dL_law_376 : decode cL_law 376 = .ok (.aload_n 1, 1) := by decide +kernel
theorem dL_law_377 : decode cL_law 377 = .ok (.invokevirtual 31, 3) := by decide +kernel
theorem dL_law_380 : decode cL_law 380 = .ok (.aload_n 2, 1) := by decide +kernel
theorem dL_law_381 : decode cL_law 381 = .ok (.invokevirtual 34, 3) := by decide +kernel
theorem dL_law_384 : decode cL_law 384 = .ok (.if_icmp .eq 1089, 3) := by decide +kernel
theorem dL_law_387 : decode cL_law 387 = .ok (.iconst 0, 1) := by decide +kernel
theorem dL_law_388 : decode cL_law 388 = .ok (.ireturn, 1) := by decide +kernel
theorem dL_law_389 : decode cL_law 389 = .ok (.aload_n 1, 1) := by decide +kernel
theorem dL_law_390 : decode cL_law 390 = .ok (.aload_n 0, 1) := by decide +kernel
theorem dL_law_391 : decode cL_law 391 = .ok (.iload 4, 2) := by decide +kernel
theorem dL_law_393 : decode cL_law 393 = .ok (.iconst 1, 1) := by decide +kernel
theorem dL_law_394 : decode cL_law 394 = .ok (.iadd, 1) := by decide +kernel
theorem dL_law_395 : decode cL_law 395 = .ok (.iaload, 1) := by decide +kernel
theorem dL_law_396 : decode cL_law 396 = .ok (.aload_n 0, 1) := by decide +kernel
theorem dL_law_397 : decode cL_law 397 = .ok (.iload 4, 2) := by decide +kernel
theorem dL_law_399 : decode cL_law 399 = .ok (.iconst 2, 1) := by decide +kernel
theorem dL_law_400 : decode cL_law 400 = .ok (.iadd, 1) := by decide +kernel
theorem dL_law_401 : decode cL_law 401 = .ok (.iaload, 1) := by decide +kernel
theorem dL_law_402 : decode cL_law 402 = .ok (.invokevirtual 35, 3) := by decide +kernel
theorem dL_law_405 : decode cL_law 405 = .ok (.aload_n 2, 1) := by decide +kernel
theorem dL_law_406 : decode cL_law 406 = .ok (.aload_n 0, 1) := by decide +kernel
theorem dL_law_407 : decode cL_law 407 = .ok (.iload 4, 2) := by decide +kernel
theorem dL_law_409 : decode cL_law 409 = .ok (.iconst 1, 1) := by decide +kernel
theorem dL_law_410 : decode cL_law 410 = .ok (.iadd, 1) := by decide +kernel
theorem dL_law_411 : decode cL_law 411 = .ok (.iaload, 1) := by decide +kernel
theorem dL_law_412 : decode cL_law 412 = .ok (.aload_n 0, 1) := by decide +kernel
theorem dL_law_413 : decode cL_law 413 = .ok (.iload 4, 2) := by decide +kernel
theorem dL_law_415 : decode cL_law 415 = .ok (.iconst 2, 1) := by decide +kernel
theorem dL_law_416 : decode cL_law 416 = .ok (.iadd, 1) := by decide +kernel
theorem dL_law_417 : decode cL_law 417 = .ok (.iaload, 1) := by decide +kernel
theorem dL_law_418 : decode cL_law 418 = .ok (.invokevirtual 39, 3) := by decide +kernel
theorem dL_law_421 : decode cL_law 421 = .ok (.if_icmp .eq 1052, 3) := by decide +kernel
theorem dL_law_424 : decode cL_law 424 = .ok (.iconst 0, 1) := by decide +kernel
theorem dL_law_425 : decode cL_law 425 = .ok (.ireturn, 1) := by decide +kernel
theorem dL_law_426 : decode cL_law 426 = .ok (.aload_n 1, 1) := by decide +kernel
theorem dL_law_427 : decode cL_law 427 = .ok (.aload_n 0, 1) := by decide +kernel
theorem dL_law_428 : decode cL_law 428 = .ok (.iload 4, 2) := by decide +kernel
theorem dL_law_430 : decode cL_law 430 = .ok (.iconst 1, 1) := by decide +kernel
theorem dL_law_431 : decode cL_law 431 = .ok (.iadd, 1) := by decide +kernel
theorem dL_law_432 : decode cL_law 432 = .ok (.iaload, 1) := by decide +kernel
theorem dL_law_433 : decode cL_law 433 = .ok (.aload_n 0, 1) := by decide +kernel
theorem dL_law_434 : decode cL_law 434 = .ok (.iload 4, 2) := by decide +kernel
theorem dL_law_436 : decode cL_law 436 = .ok (.iconst 2, 1) := by decide +kernel
theorem dL_law_437 : decode cL_law 437 = .ok (.iadd, 1) := by decide +kernel
theorem dL_law_438 : decode cL_law 438 = .ok (.iaload, 1) := by decide +kernel
theorem dL_law_439 : decode cL_law 439 = .ok (.aload_n 0, 1) := by decide +kernel
theorem dL_law_440 : decode cL_law 440 = .ok (.iload 4, 2) := by decide +kernel
theorem dL_law_442 : decode cL_law 442 = .ok (.iconst 3, 1) := by decide +kernel
theorem dL_law_443 : decode cL_law 443 = .ok (.iadd, 1) := by decide +kernel
theorem dL_law_444 : decode cL_law 444 = .ok (.iaload, 1) := by decide +kernel
theorem dL_law_445 : decode cL_law 445 = .ok (.invokevirtual 40, 3) := by decide +kernel
theorem dL_law_448 : decode cL_law 448 = .ok (.aload_n 2, 1) := by decide +kernel
theorem dL_law_449 : decode cL_law 449 = .ok (.aload_n 0, 1) := by decide +kernel
theorem dL_law_450 : decode cL_law 450 = .ok (.iload 4, 2) := by decide +kernel
theorem dL_law_452 : decode cL_law 452 = .ok (.iconst 1, 1) := by decide +kernel
theorem dL_law_453 : decode cL_law 453 = .ok (.iadd, 1) := by decide +kernel
theorem dL_law_454 : decode cL_law 454 = .ok (.iaload, 1) := by decide +kernel
theorem dL_law_455 : decode cL_law 455 = .ok (.aload_n 0, 1) := by decide +kernel
theorem dL_law_456 : decode cL_law 456 = .ok (.iload 4, 2) := by decide +kernel
theorem dL_law_458 : decode cL_law 458 = .ok (.iconst 2, 1) := by decide +kernel
theorem dL_law_459 : decode cL_law 459 = .ok (.iadd, 1) := by decide +kernel
theorem dL_law_460 : decode cL_law 460 = .ok (.iaload, 1) := by decide +kernel
theorem dL_law_461 : decode cL_law 461 = .ok (.aload_n 0, 1) := by decide +kernel
theorem dL_law_462 : decode cL_law 462 = .ok (.iload 4, 2) := by decide +kernel
theorem dL_law_464 : decode cL_law 464 = .ok (.iconst 3, 1) := by decide +kernel
theorem dL_law_465 : decode cL_law 465 = .ok (.iadd, 1) := by decide +kernel
theorem dL_law_466 : decode cL_law 466 = .ok (.iaload, 1) := by decide +kernel
theorem dL_law_467 : decode cL_law 467 = .ok (.invokevirtual 44, 3) := by decide +kernel
theorem dL_law_470 : decode cL_law 470 = .ok (.if_icmp .eq 1003, 3) := by decide +kernel
theorem dL_law_473 : decode cL_law 473 = .ok (.iconst 0, 1) := by decide +kernel
theorem dL_law_474 : decode cL_law 474 = .ok (.ireturn, 1) := by decide +kernel
theorem dL_law_475 : decode cL_law 475 = .ok (.aload_n 1, 1) := by decide +kernel
theorem dL_law_476 : decode cL_law 476 = .ok (.aload_n 0, 1) := by decide +kernel
theorem dL_law_477 : decode cL_law 477 = .ok (.iload 4, 2) := by decide +kernel
theorem dL_law_479 : decode cL_law 479 = .ok (.iconst 1, 1) := by decide +kernel
theorem dL_law_480 : decode cL_law 480 = .ok (.iadd, 1) := by decide +kernel
theorem dL_law_481 : decode cL_law 481 = .ok (.iaload, 1) := by decide +kernel
theorem dL_law_482 : decode cL_law 482 = .ok (.invokevirtual 45, 3) := by decide +kernel
theorem dL_law_485 : decode cL_law 485 = .ok (.aload_n 2, 1) := by decide +kernel
theorem dL_law_486 : decode cL_law 486 = .ok (.aload_n 0, 1) := by decide +kernel
theorem dL_law_487 : decode cL_law 487 = .ok (.iload 4, 2) := by decide +kernel
theorem dL_law_489 : decode cL_law 489 = .ok (.iconst 1, 1) := by decide +kernel
theorem dL_law_490 : decode cL_law 490 = .ok (.iadd, 1) := by decide +kernel
theorem dL_law_491 : decode cL_law 491 = .ok (.iaload, 1) := by decide +kernel
theorem dL_law_492 : decode cL_law 492 = .ok (.invokevirtual 49, 3) := by decide +kernel
theorem dL_law_495 : decode cL_law 495 = .ok (.if_icmp .eq 978, 3) := by decide +kernel
theorem dL_law_498 : decode cL_law 498 = .ok (.iconst 0, 1) := by decide +kernel
theorem dL_law_499 : decode cL_law 499 = .ok (.ireturn, 1) := by decide +kernel
theorem dL_law_500 : decode cL_law 500 = .ok (.aload_n 1, 1) := by decide +kernel
theorem dL_law_501 : decode cL_law 501 = .ok (.aload_n 0, 1) := by decide +kernel
theorem dL_law_502 : decode cL_law 502 = .ok (.iload 4, 2) := by decide +kernel
theorem dL_law_504 : decode cL_law 504 = .ok (.iconst 1, 1) := by decide +kernel
theorem dL_law_505 : decode cL_law 505 = .ok (.iadd, 1) := by decide +kernel
theorem dL_law_506 : decode cL_law 506 = .ok (.iaload, 1) := by decide +kernel
theorem dL_law_507 : decode cL_law 507 = .ok (.aload_n 0, 1) := by decide +kernel
theorem dL_law_508 : decode cL_law 508 = .ok (.iload 4, 2) := by decide +kernel
theorem dL_law_510 : decode cL_law 510 = .ok (.iconst 2, 1) := by decide +kernel
theorem dL_law_511 : decode cL_law 511 = .ok (.iadd, 1) := by decide +kernel
theorem dL_law_512 : decode cL_law 512 = .ok (.iaload, 1) := by decide +kernel
theorem dL_law_513 : decode cL_law 513 = .ok (.invokevirtual 50, 3) := by decide +kernel
theorem dL_law_516 : decode cL_law 516 = .ok (.aload_n 2, 1) := by decide +kernel
theorem dL_law_517 : decode cL_law 517 = .ok (.aload_n 0, 1) := by decide +kernel
theorem dL_law_518 : decode cL_law 518 = .ok (.iload 4, 2) := by decide +kernel
theorem dL_law_520 : decode cL_law 520 = .ok (.iconst 1, 1) := by decide +kernel
theorem dL_law_521 : decode cL_law 521 = .ok (.iadd, 1) := by decide +kernel
theorem dL_law_522 : decode cL_law 522 = .ok (.iaload, 1) := by decide +kernel
theorem dL_law_523 : decode cL_law 523 = .ok (.aload_n 0, 1) := by decide +kernel
theorem dL_law_524 : decode cL_law 524 = .ok (.iload 4, 2) := by decide +kernel
theorem dL_law_526 : decode cL_law 526 = .ok (.iconst 2, 1) := by decide +kernel
theorem dL_law_527 : decode cL_law 527 = .ok (.iadd, 1) := by decide +kernel
theorem dL_law_528 : decode cL_law 528 = .ok (.iaload, 1) := by decide +kernel
theorem dL_law_529 : decode cL_law 529 = .ok (.invokevirtual 54, 3) := by decide +kernel
theorem dL_law_532 : decode cL_law 532 = .ok (.if_icmp .eq 941, 3) := by decide +kernel
theorem dL_law_535 : decode cL_law 535 = .ok (.iconst 0, 1) := by decide +kernel
theorem dL_law_536 : decode cL_law 536 = .ok (.ireturn, 1) := by decide +kernel
theorem dL_law_537 : decode cL_law 537 = .ok (.aload_n 1, 1) := by decide +kernel
theorem dL_law_538 : decode cL_law 538 = .ok (.aload_n 0, 1) := by decide +kernel
theorem dL_law_539 : decode cL_law 539 = .ok (.iload 4, 2) := by decide +kernel
theorem dL_law_541 : decode cL_law 541 = .ok (.iconst 1, 1) := by decide +kernel
theorem dL_law_542 : decode cL_law 542 = .ok (.iadd, 1) := by decide +kernel
theorem dL_law_543 : decode cL_law 543 = .ok (.iaload, 1) := by decide +kernel
theorem dL_law_544 : decode cL_law 544 = .ok (.aload_n 0, 1) := by decide +kernel
theorem dL_law_545 : decode cL_law 545 = .ok (.iload 4, 2) := by decide +kernel
theorem dL_law_547 : decode cL_law 547 = .ok (.iconst 2, 1) := by decide +kernel
theorem dL_law_548 : decode cL_law 548 = .ok (.iadd, 1) := by decide +kernel
theorem dL_law_549 : decode cL_law 549 = .ok (.iaload, 1) := by decide +kernel
theorem dL_law_550 : decode cL_law 550 = .ok (.invokevirtual 55, 3) := by decide +kernel
theorem dL_law_553 : decode cL_law 553 = .ok (.aload_n 2, 1) := by decide +kernel
theorem dL_law_554 : decode cL_law 554 = .ok (.aload_n 0, 1) := by decide +kernel
theorem dL_law_555 : decode cL_law 555 = .ok (.iload 4, 2) := by decide +kernel
theorem dL_law_557 : decode cL_law 557 = .ok (.iconst 1, 1) := by decide +kernel
theorem dL_law_558 : decode cL_law 558 = .ok (.iadd, 1) := by decide +kernel
theorem dL_law_559 : decode cL_law 559 = .ok (.iaload, 1) := by decide +kernel
theorem dL_law_560 : decode cL_law 560 = .ok (.aload_n 0, 1) := by decide +kernel
theorem dL_law_561 : decode cL_law 561 = .ok (.iload 4, 2) := by decide +kernel
theorem dL_law_563 : decode cL_law 563 = .ok (.iconst 2, 1) := by decide +kernel
theorem dL_law_564 : decode cL_law 564 = .ok (.iadd, 1) := by decide +kernel
theorem dL_law_565 : decode cL_law 565 = .ok (.iaload, 1) := by decide +kernel
theorem dL_law_566 : decode cL_law 566 = .ok (.invokevirtual 58, 3) := by decide +kernel
theorem dL_law_569 : decode cL_law 569 = .ok (.if_icmp .eq 904, 3) := by decide +kernel
theorem dL_law_572 : decode cL_law 572 = .ok (.iconst 0, 1) := by decide +kernel
theorem dL_law_573 : decode cL_law 573 = .ok (.ireturn, 1) := by decide +kernel
theorem dL_law_574 : decode cL_law 574 = .ok (.aload_n 1, 1) := by decide +kernel
theorem dL_law_575 : decode cL_law 575 = .ok (.aload_n 0, 1) := by decide +kernel
theorem dL_law_576 : decode cL_law 576 = .ok (.iload 4, 2) := by decide +kernel
theorem dL_law_578 : decode cL_law 578 = .ok (.iconst 1, 1) := by decide +kernel
theorem dL_law_579 : decode cL_law 579 = .ok (.iadd, 1) := by decide +kernel
theorem dL_law_580 : decode cL_law 580 = .ok (.iaload, 1) := by decide +kernel
theorem dL_law_581 : decode cL_law 581 = .ok (.invokevirtual 59, 3) := by decide +kernel
theorem dL_law_584 : decode cL_law 584 = .ok (.aload_n 2, 1) := by decide +kernel
theorem dL_law_585 : decode cL_law 585 = .ok (.aload_n 0, 1) := by decide +kernel
theorem dL_law_586 : decode cL_law 586 = .ok (.iload 4, 2) := by decide +kernel
theorem dL_law_588 : decode cL_law 588 = .ok (.iconst 1, 1) := by decide +kernel
theorem dL_law_589 : decode cL_law 589 = .ok (.iadd, 1) := by decide +kernel
theorem dL_law_590 : decode cL_law 590 = .ok (.iaload, 1) := by decide +kernel
theorem dL_law_591 : decode cL_law 591 = .ok (.invokevirtual 62, 3) := by decide +kernel
theorem dL_law_594 : decode cL_law 594 = .ok (.if_icmp .eq 879, 3) := by decide +kernel
theorem dL_law_597 : decode cL_law 597 = .ok (.iconst 0, 1) := by decide +kernel
theorem dL_law_598 : decode cL_law 598 = .ok (.ireturn, 1) := by decide +kernel
theorem dL_law_599 : decode cL_law 599 = .ok (.aload_n 1, 1) := by decide +kernel
theorem dL_law_600 : decode cL_law 600 = .ok (.aload_n 0, 1) := by decide +kernel
theorem dL_law_601 : decode cL_law 601 = .ok (.iload 4, 2) := by decide +kernel
theorem dL_law_603 : decode cL_law 603 = .ok (.iconst 1, 1) := by decide +kernel
theorem dL_law_604 : decode cL_law 604 = .ok (.iadd, 1) := by decide +kernel
theorem dL_law_605 : decode cL_law 605 = .ok (.iaload, 1) := by decide +kernel
theorem dL_law_606 : decode cL_law 606 = .ok (.invokevirtual 63, 3) := by decide +kernel
theorem dL_law_609 : decode cL_law 609 = .ok (.aload_n 2, 1) := by decide +kernel
theorem dL_law_610 : decode cL_law 610 = .ok (.aload_n 0, 1) := by decide +kernel
theorem dL_law_611 : decode cL_law 611 = .ok (.iload 4, 2) := by decide +kernel
theorem dL_law_613 : decode cL_law 613 = .ok (.iconst 1, 1) := by decide +kernel
theorem dL_law_614 : decode cL_law 614 = .ok (.iadd, 1) := by decide +kernel
theorem dL_law_615 : decode cL_law 615 = .ok (.iaload, 1) := by decide +kernel
theorem dL_law_616 : decode cL_law 616 = .ok (.invokevirtual 67, 3) := by decide +kernel
theorem dL_law_619 : decode cL_law 619 = .ok (.if_icmp .eq 854, 3) := by decide +kernel
theorem dL_law_622 : decode cL_law 622 = .ok (.iconst 0, 1) := by decide +kernel
theorem dL_law_623 : decode cL_law 623 = .ok (.ireturn, 1) := by decide +kernel
theorem dL_law_624 : decode cL_law 624 = .ok (.aload_n 1, 1) := by decide +kernel
theorem dL_law_625 : decode cL_law 625 = .ok (.aload_n 0, 1) := by decide +kernel
theorem dL_law_626 : decode cL_law 626 = .ok (.iload 4, 2) := by decide +kernel
theorem dL_law_628 : decode cL_law 628 = .ok (.iconst 1, 1) := by decide +kernel
theorem dL_law_629 : decode cL_law 629 = .ok (.iadd, 1) := by decide +kernel
theorem dL_law_630 : decode cL_law 630 = .ok (.iaload, 1) := by decide +kernel
theorem dL_law_631 : decode cL_law 631 = .ok (.invokevirtual 68, 3) := by decide +kernel
theorem dL_law_634 : decode cL_law 634 = .ok (.aload_n 2, 1) := by decide +kernel
theorem dL_law_635 : decode cL_law 635 = .ok (.aload_n 0, 1) := by decide +kernel
theorem dL_law_636 : decode cL_law 636 = .ok (.iload 4, 2) := by decide +kernel
theorem dL_law_638 : decode cL_law 638 = .ok (.iconst 1, 1) := by decide +kernel
theorem dL_law_639 : decode cL_law 639 = .ok (.iadd, 1) := by decide +kernel
theorem dL_law_640 : decode cL_law 640 = .ok (.iaload, 1) := by decide +kernel
theorem dL_law_641 : decode cL_law 641 = .ok (.invokevirtual 71, 3) := by decide +kernel
theorem dL_law_644 : decode cL_law 644 = .ok (.if_icmp .eq 829, 3) := by decide +kernel
theorem dL_law_647 : decode cL_law 647 = .ok (.iconst 0, 1) := by decide +kernel
theorem dL_law_648 : decode cL_law 648 = .ok (.ireturn, 1) := by decide +kernel
theorem dL_law_649 : decode cL_law 649 = .ok (.aload_n 1, 1) := by decide +kernel
theorem dL_law_650 : decode cL_law 650 = .ok (.invokevirtual 72, 3) := by decide +kernel
theorem dL_law_653 : decode cL_law 653 = .ok (.aload_n 2, 1) := by decide +kernel
theorem dL_law_654 : decode cL_law 654 = .ok (.invokevirtual 75, 3) := by decide +kernel
theorem dL_law_657 : decode cL_law 657 = .ok (.if_icmp .eq 816, 3) := by decide +kernel
theorem dL_law_660 : decode cL_law 660 = .ok (.iconst 0, 1) := by decide +kernel
theorem dL_law_661 : decode cL_law 661 = .ok (.ireturn, 1) := by decide +kernel
theorem dL_law_662 : decode cL_law 662 = .ok (.aload_n 1, 1) := by decide +kernel
theorem dL_law_663 : decode cL_law 663 = .ok (.invokevirtual 76, 3) := by decide +kernel
theorem dL_law_666 : decode cL_law 666 = .ok (.aload_n 2, 1) := by decide +kernel
theorem dL_law_667 : decode cL_law 667 = .ok (.invokevirtual 80, 3) := by decide +kernel
theorem dL_law_670 : decode cL_law 670 = .ok (.if_icmp .eq 803, 3) := by decide +kernel
theorem dL_law_673 : decode cL_law 673 = .ok (.iconst 0, 1) := by decide +kernel
theorem dL_law_674 : decode cL_law 674 = .ok (.ireturn, 1) := by decide +kernel
theorem dL_law_675 : decode cL_law 675 = .ok (.aload_n 1, 1) := by decide +kernel
theorem dL_law_676 : decode cL_law 676 = .ok (.aload_n 0, 1) := by decide +kernel
theorem dL_law_677 : decode cL_law 677 = .ok (.iload 4, 2) := by decide +kernel
theorem dL_law_679 : decode cL_law 679 = .ok (.iconst 1, 1) := by decide +kernel
theorem dL_law_680 : decode cL_law 680 = .ok (.iadd, 1) := by decide +kernel
theorem dL_law_681 : decode cL_law 681 = .ok (.iaload, 1) := by decide +kernel
theorem dL_law_682 : decode cL_law 682 = .ok (.invokevirtual 81, 3) := by decide +kernel
theorem dL_law_685 : decode cL_law 685 = .ok (.aload_n 2, 1) := by decide +kernel
theorem dL_law_686 : decode cL_law 686 = .ok (.aload_n 0, 1) := by decide +kernel
theorem dL_law_687 : decode cL_law 687 = .ok (.iload 4, 2) := by decide +kernel
theorem dL_law_689 : decode cL_law 689 = .ok (.iconst 1, 1) := by decide +kernel
theorem dL_law_690 : decode cL_law 690 = .ok (.iadd, 1) := by decide +kernel
theorem dL_law_691 : decode cL_law 691 = .ok (.iaload, 1) := by decide +kernel
theorem dL_law_692 : decode cL_law 692 = .ok (.invokevirtual 84, 3) := by decide +kernel
theorem dL_law_695 : decode cL_law 695 = .ok (.if_icmp .eq 778, 3) := by decide +kernel
theorem dL_law_698 : decode cL_law 698 = .ok (.iconst 0, 1) := by decide +kernel
theorem dL_law_699 : decode cL_law 699 = .ok (.ireturn, 1) := by decide +kernel
theorem dL_law_700 : decode cL_law 700 = .ok (.aload_n 1, 1) := by decide +kernel
theorem dL_law_701 : decode cL_law 701 = .ok (.aload_n 0, 1) := by decide +kernel
theorem dL_law_702 : decode cL_law 702 = .ok (.iload 4, 2) := by decide +kernel
theorem dL_law_704 : decode cL_law 704 = .ok (.iconst 1, 1) := by decide +kernel
theorem dL_law_705 : decode cL_law 705 = .ok (.iadd, 1) := by decide +kernel
theorem dL_law_706 : decode cL_law 706 = .ok (.iaload, 1) := by decide +kernel
theorem dL_law_707 : decode cL_law 707 = .ok (.invokevirtual 85, 3) := by decide +kernel
theorem dL_law_710 : decode cL_law 710 = .ok (.aload_n 2, 1) := by decide +kernel
theorem dL_law_711 : decode cL_law 711 = .ok (.aload_n 0, 1) := by decide +kernel
theorem dL_law_712 : decode cL_law 712 = .ok (.iload 4, 2) := by decide +kernel
theorem dL_law_714 : decode cL_law 714 = .ok (.iconst 1, 1) := by decide +kernel
theorem dL_law_715 : decode cL_law 715 = .ok (.iadd, 1) := by decide +kernel
theorem dL_law_716 : decode cL_law 716 = .ok (.iaload, 1) := by decide +kernel
theorem dL_law_717 : decode cL_law 717 = .ok (.invokevirtual 88, 3) := by decide +kernel
theorem dL_law_720 : decode cL_law 720 = .ok (.if_icmp .eq 753, 3) := by decide +kernel
theorem dL_law_723 : decode cL_law 723 = .ok (.iconst 0, 1) := by decide +kernel
theorem dL_law_724 : decode cL_law 724 = .ok (.ireturn, 1) := by decide +kernel
theorem dL_law_725 : decode cL_law 725 = .ok (.aload_n 1, 1) := by decide +kernel
theorem dL_law_726 : decode cL_law 726 = .ok (.invokevirtual 89, 3) := by decide +kernel
theorem dL_law_729 : decode cL_law 729 = .ok (.aload_n 2, 1) := by decide +kernel
theorem dL_law_730 : decode cL_law 730 = .ok (.invokevirtual 92, 3) := by decide +kernel
theorem dL_law_733 : decode cL_law 733 = .ok (.if_icmp .eq 740, 3) := by decide +kernel
theorem dL_law_736 : decode cL_law 736 = .ok (.iconst 0, 1) := by decide +kernel
theorem dL_law_737 : decode cL_law 737 = .ok (.ireturn, 1) := by decide +kernel
theorem dL_law_738 : decode cL_law 738 = .ok (.aload_n 1, 1) := by decide +kernel
theorem dL_law_739 : decode cL_law 739 = .ok (.aload_n 0, 1) := by decide +kernel
theorem dL_law_740 : decode cL_law 740 = .ok (.iload 4, 2) := by decide +kernel
theorem dL_law_742 : decode cL_law 742 = .ok (.iconst 1, 1) := by decide +kernel
theorem dL_law_743 : decode cL_law 743 = .ok (.iadd, 1) := by decide +kernel
theorem dL_law_744 : decode cL_law 744 = .ok (.iaload, 1) := by decide +kernel
theorem dL_law_745 : decode cL_law 745 = .ok (.aload_n 0, 1) := by decide +kernel
theorem dL_law_746 : decode cL_law 746 = .ok (.iload 4, 2) := by decide +kernel
theorem dL_law_748 : decode cL_law 748 = .ok (.iconst 2, 1) := by decide +kernel
theorem dL_law_749 : decode cL_law 749 = .ok (.iadd, 1) := by decide +kernel
theorem dL_law_750 : decode cL_law 750 = .ok (.iaload, 1) := by decide +kernel
theorem dL_law_751 : decode cL_law 751 = .ok (.invokevirtual 93, 3) := by decide +kernel
theorem dL_law_754 : decode cL_law 754 = .ok (.aload_n 2, 1) := by decide +kernel
theorem dL_law_755 : decode cL_law 755 = .ok (.aload_n 0, 1) := by decide +kernel
theorem dL_law_756 : decode cL_law 756 = .ok (.iload 4, 2) := by decide +kernel
theorem dL_law_758 : decode cL_law 758 = .ok (.iconst 1, 1) := by decide +kernel
theorem dL_law_759 : decode cL_law 759 = .ok (.iadd, 1) := by decide +kernel
theorem dL_law_760 : decode cL_law 760 = .ok (.iaload, 1) := by decide +kernel
theorem dL_law_761 : decode cL_law 761 = .ok (.aload_n 0, 1) := by decide +kernel
theorem dL_law_762 : decode cL_law 762 = .ok (.iload 4, 2) := by decide +kernel
theorem dL_law_764 : decode cL_law 764 = .ok (.iconst 2, 1) := by decide +kernel
theorem dL_law_765 : decode cL_law 765 = .ok (.iadd, 1) := by decide +kernel
theorem dL_law_766 : decode cL_law 766 = .ok (.iaload, 1) := by decide +kernel
theorem dL_law_767 : decode cL_law 767 = .ok (.invokevirtual 96, 3) := by decide +kernel
theorem dL_law_770 : decode cL_law 770 = .ok (.if_icmp .eq 703, 3) := by decide +kernel
theorem dL_law_773 : decode cL_law 773 = .ok (.iconst 0, 1) := by decide +kernel
theorem dL_law_774 : decode cL_law 774 = .ok (.ireturn, 1) := by decide +kernel
theorem dL_law_775 : decode cL_law 775 = .ok (.aload_n 1, 1) := by decide +kernel
theorem dL_law_776 : decode cL_law 776 = .ok (.aload_n 0, 1) := by decide +kernel
theorem dL_law_777 : decode cL_law 777 = .ok (.iload 4, 2) := by decide +kernel
theorem dL_law_779 : decode cL_law 779 = .ok (.iconst 1, 1) := by decide +kernel
theorem dL_law_780 : decode cL_law 780 = .ok (.iadd, 1) := by decide +kernel
theorem dL_law_781 : decode cL_law 781 = .ok (.iaload, 1) := by decide +kernel
theorem dL_law_782 : decode cL_law 782 = .ok (.aload_n 0, 1) := by decide +kernel
theorem dL_law_783 : decode cL_law 783 = .ok (.iload 4, 2) := by decide +kernel
theorem dL_law_785 : decode cL_law 785 = .ok (.iconst 2, 1) := by decide +kernel
theorem dL_law_786 : decode cL_law 786 = .ok (.iadd, 1) := by decide +kernel
theorem dL_law_787 : decode cL_law 787 = .ok (.iaload, 1) := by decide +kernel
theorem dL_law_788 : decode cL_law 788 = .ok (.invokevirtual 97, 3) := by decide +kernel
theorem dL_law_791 : decode cL_law 791 = .ok (.aload_n 2, 1) := by decide +kernel
theorem dL_law_792 : decode cL_law 792 = .ok (.aload_n 0, 1) := by decide +kernel
theorem dL_law_793 : decode cL_law 793 = .ok (.iload 4, 2) := by decide +kernel
theorem dL_law_795 : decode cL_law 795 = .ok (.iconst 1, 1) := by decide +kernel
theorem dL_law_796 : decode cL_law 796 = .ok (.iadd, 1) := by decide +kernel
theorem dL_law_797 : decode cL_law 797 = .ok (.iaload, 1) := by decide +kernel
theorem dL_law_798 : decode cL_law 798 = .ok (.aload_n 0, 1) := by decide +kernel
theorem dL_law_799 : decode cL_law 799 = .ok (.iload 4, 2) := by decide +kernel
theorem dL_law_801 : decode cL_law 801 = .ok (.iconst 2, 1) := by decide +kernel
theorem dL_law_802 : decode cL_law 802 = .ok (.iadd, 1) := by decide +kernel
theorem dL_law_803 : decode cL_law 803 = .ok (.iaload, 1) := by decide +kernel
theorem dL_law_804 : decode cL_law 804 = .ok (.invokevirtual 100, 3) := by decide +kernel
theorem dL_law_807 : decode cL_law 807 = .ok (.if_icmp .eq 666, 3) := by decide +kernel
theorem dL_law_810 : decode cL_law 810 = .ok (.iconst 0, 1) := by decide +kernel
theorem dL_law_811 : decode cL_law 811 = .ok (.ireturn, 1) := by decide +kernel
theorem dL_law_812 : decode cL_law 812 = .ok (.aload_n 1, 1) := by decide +kernel
theorem dL_law_813 : decode cL_law 813 = .ok (.aload_n 0, 1) := by decide +kernel
theorem dL_law_814 : decode cL_law 814 = .ok (.iload 4, 2) := by decide +kernel
theorem dL_law_816 : decode cL_law 816 = .ok (.iconst 1, 1) := by decide +kernel
theorem dL_law_817 : decode cL_law 817 = .ok (.iadd, 1) := by decide +kernel
theorem dL_law_818 : decode cL_law 818 = .ok (.iaload, 1) := by decide +kernel
theorem dL_law_819 : decode cL_law 819 = .ok (.aload_n 0, 1) := by decide +kernel
theorem dL_law_820 : decode cL_law 820 = .ok (.iload 4, 2) := by decide +kernel
theorem dL_law_822 : decode cL_law 822 = .ok (.iconst 2, 1) := by decide +kernel
theorem dL_law_823 : decode cL_law 823 = .ok (.iadd, 1) := by decide +kernel
theorem dL_law_824 : decode cL_law 824 = .ok (.iaload, 1) := by decide +kernel
theorem dL_law_825 : decode cL_law 825 = .ok (.invokevirtual 101, 3) := by decide +kernel
theorem dL_law_828 : decode cL_law 828 = .ok (.aload_n 2, 1) := by decide +kernel
theorem dL_law_829 : decode cL_law 829 = .ok (.aload_n 0, 1) := by decide +kernel
theorem dL_law_830 : decode cL_law 830 = .ok (.iload 4, 2) := by decide +kernel
theorem dL_law_832 : decode cL_law 832 = .ok (.iconst 1, 1) := by decide +kernel
theorem dL_law_833 : decode cL_law 833 = .ok (.iadd, 1) := by decide +kernel
theorem dL_law_834 : decode cL_law 834 = .ok (.iaload, 1) := by decide +kernel
theorem dL_law_835 : decode cL_law 835 = .ok (.aload_n 0, 1) := by decide +kernel
theorem dL_law_836 : decode cL_law 836 = .ok (.iload 4, 2) := by decide +kernel
theorem dL_law_838 : decode cL_law 838 = .ok (.iconst 2, 1) := by decide +kernel
theorem dL_law_839 : decode cL_law 839 = .ok (.iadd, 1) := by decide +kernel
theorem dL_law_840 : decode cL_law 840 = .ok (.iaload, 1) := by decide +kernel
theorem dL_law_841 : decode cL_law 841 = .ok (.invokevirtual 104, 3) := by decide +kernel
theorem dL_law_844 : decode cL_law 844 = .ok (.if_icmp .eq 629, 3) := by decide +kernel
theorem dL_law_847 : decode cL_law 847 = .ok (.iconst 0, 1) := by decide +kernel
theorem dL_law_848 : decode cL_law 848 = .ok (.ireturn, 1) := by decide +kernel
theorem dL_law_849 : decode cL_law 849 = .ok (.aload_n 1, 1) := by decide +kernel
theorem dL_law_850 : decode cL_law 850 = .ok (.aload_n 0, 1) := by decide +kernel
theorem dL_law_851 : decode cL_law 851 = .ok (.iload 4, 2) := by decide +kernel
theorem dL_law_853 : decode cL_law 853 = .ok (.iconst 1, 1) := by decide +kernel
theorem dL_law_854 : decode cL_law 854 = .ok (.iadd, 1) := by decide +kernel
theorem dL_law_855 : decode cL_law 855 = .ok (.iaload, 1) := by decide +kernel
theorem dL_law_856 : decode cL_law 856 = .ok (.invokevirtual 105, 3) := by decide +kernel
theorem dL_law_859 : decode cL_law 859 = .ok (.aload_n 2, 1) := by decide +kernel
theorem dL_law_860 : decode cL_law 860 = .ok (.aload_n 0, 1) := by decide +kernel
theorem dL_law_861 : decode cL_law 861 = .ok (.iload 4, 2) := by decide +kernel
theorem dL_law_863 : decode cL_law 863 = .ok (.iconst 1, 1) := by decide +kernel
theorem dL_law_864 : decode cL_law 864 = .ok (.iadd, 1) := by decide +kernel
theorem dL_law_865 : decode cL_law 865 = .ok (.iaload, 1) := by decide +kernel
theorem dL_law_866 : decode cL_law 866 = .ok (.invokevirtual 108, 3) := by decide +kernel
theorem dL_law_869 : decode cL_law 869 = .ok (.if_icmp .eq 604, 3) := by decide +kernel
theorem dL_law_872 : decode cL_law 872 = .ok (.iconst 0, 1) := by decide +kernel
theorem dL_law_873 : decode cL_law 873 = .ok (.ireturn, 1) := by decide +kernel
theorem dL_law_874 : decode cL_law 874 = .ok (.aload_n 1, 1) := by decide +kernel
theorem dL_law_875 : decode cL_law 875 = .ok (.aload_n 0, 1) := by decide +kernel
theorem dL_law_876 : decode cL_law 876 = .ok (.iload 4, 2) := by decide +kernel
theorem dL_law_878 : decode cL_law 878 = .ok (.iconst 1, 1) := by decide +kernel
theorem dL_law_879 : decode cL_law 879 = .ok (.iadd, 1) := by decide +kernel
theorem dL_law_880 : decode cL_law 880 = .ok (.iaload, 1) := by decide +kernel
theorem dL_law_881 : decode cL_law 881 = .ok (.aload_n 0, 1) := by decide +kernel
theorem dL_law_882 : decode cL_law 882 = .ok (.iload 4, 2) := by decide +kernel
theorem dL_law_884 : decode cL_law 884 = .ok (.iconst 2, 1) := by decide +kernel
theorem dL_law_885 : decode cL_law 885 = .ok (.iadd, 1) := by decide +kernel
theorem dL_law_886 : decode cL_law 886 = .ok (.iaload, 1) := by decide +kernel
theorem dL_law_887 : decode cL_law 887 = .ok (.ifCond .eq 7, 3) := by decide +kernel
theorem dL_law_890 : decode cL_law 890 = .ok (.iconst 1, 1) := by decide +kernel
theorem dL_law_891 : decode cL_law 891 = .ok (.goto 4, 3) := by decide +kernel
theorem dL_law_894 : decode cL_law 894 = .ok (.iconst 0, 1) := by decide +kernel
theorem dL_law_895 : decode cL_law 895 = .ok (.invokevirtual 109, 3) := by decide +kernel
theorem dL_law_898 : decode cL_law 898 = .ok (.aload_n 2, 1) := by decide +kernel
theorem dL_law_899 : decode cL_law 899 = .ok (.aload_n 0, 1) := by decide +kernel
theorem dL_law_900 : decode cL_law 900 = .ok (.iload 4, 2) := by decide +kernel
theorem dL_law_902 : decode cL_law 902 = .ok (.iconst 1, 1) := by decide +kernel
theorem dL_law_903 : decode cL_law 903 = .ok (.iadd, 1) := by decide +kernel
theorem dL_law_904 : decode cL_law 904 = .ok (.iaload, 1) := by decide +kernel
theorem dL_law_905 : decode cL_law 905 = .ok (.aload_n 0, 1) := by decide +kernel
theorem dL_law_906 : decode cL_law 906 = .ok (.iload 4, 2) := by decide +kernel
theorem dL_law_908 : decode cL_law 908 = .ok (.iconst 2, 1) := by decide +kernel
theorem dL_law_909 : decode cL_law 909 = .ok (.iadd, 1) := by decide +kernel
theorem dL_law_910 : decode cL_law 910 = .ok (.iaload, 1) := by decide +kernel
theorem dL_law_911 : decode cL_law 911 = .ok (.ifCond .eq 7, 3) := by decide +kernel
theorem dL_law_914 : decode cL_law 914 = .ok (.iconst 1, 1) := by decide +kernel
theorem dL_law_915 : decode cL_law 915 = .ok (.goto 4, 3) := by decide +kernel
theorem dL_law_918 : decode cL_law 918 = .ok (.iconst 0, 1) := by decide +kernel
theorem dL_law_919 : decode cL_law 919 = .ok (.invokevirtual 113, 3) := by decide +kernel
theorem dL_law_922 : decode cL_law 922 = .ok (.if_icmp .eq 551, 3) := by decide +kernel
theorem dL_law_925 : decode cL_law 925 = .ok (.iconst 0, 1) := by decide +kernel
theorem dL_law_926 : decode cL_law 926 = .ok (.ireturn, 1) := by decide +kernel
theorem dL_law_927 : decode cL_law 927 = .ok (.aload_n 1, 1) := by decide +kernel
theorem dL_law_928 : decode cL_law 928 = .ok (.invokevirtual 114, 3) := by decide +kernel
theorem dL_law_931 : decode cL_law 931 = .ok (.aload_n 2, 1) := by decide +kernel
theorem dL_law_932 : decode cL_law 932 = .ok (.invokevirtual 117, 3) := by decide +kernel
theorem dL_law_935 : decode cL_law 935 = .ok (.if_icmp .eq 538, 3) := by decide +kernel
theorem dL_law_938 : decode cL_law 938 = .ok (.iconst 0, 1) := by decide +kernel
theorem dL_law_939 : decode cL_law 939 = .ok (.ireturn, 1) := by decide +kernel
theorem dL_law_940 : decode cL_law 940 = .ok (.aload_n 1, 1) := by decide +kernel
theorem dL_law_941 : decode cL_law 941 = .ok (.invokevirtual 118, 3) := by decide +kernel
theorem dL_law_944 : decode cL_law 944 = .ok (.aload_n 2, 1) := by decide +kernel
theorem dL_law_945 : decode cL_law 945 = .ok (.invokevirtual 121, 3) := by decide +kernel
theorem dL_law_948 : decode cL_law 948 = .ok (.if_icmp .eq 525, 3) := by decide +kernel
theorem dL_law_951 : decode cL_law 951 = .ok (.iconst 0, 1) := by decide +kernel
theorem dL_law_952 : decode cL_law 952 = .ok (.ireturn, 1) := by decide +kernel
theorem dL_law_953 : decode cL_law 953 = .ok (.aload_n 1, 1) := by decide +kernel
theorem dL_law_954 : decode cL_law 954 = .ok (.aload_n 0, 1) := by decide +kernel
theorem dL_law_955 : decode cL_law 955 = .ok (.iload 4, 2) := by decide +kernel
theorem dL_law_957 : decode cL_law 957 = .ok (.iconst 1, 1) := by decide +kernel
theorem dL_law_958 : decode cL_law 958 = .ok (.iadd, 1) := by decide +kernel
theorem dL_law_959 : decode cL_law 959 = .ok (.iaload, 1) := by decide +kernel
theorem dL_law_960 : decode cL_law 960 = .ok (.invokevirtual 122, 3) := by decide +kernel
theorem dL_law_963 : decode cL_law 963 = .ok (.aload_n 2, 1) := by decide +kernel
theorem dL_law_964 : decode cL_law 964 = .ok (.aload_n 0, 1) := by decide +kernel
theorem dL_law_965 : decode cL_law 965 = .ok (.iload 4, 2) := by decide +kernel
theorem dL_law_967 : decode cL_law 967 = .ok (.iconst 1, 1) := by decide +kernel
theorem dL_law_968 : decode cL_law 968 = .ok (.iadd, 1) := by decide +kernel
theorem dL_law_969 : decode cL_law 969 = .ok (.iaload, 1) := by decide +kernel
theorem dL_law_970 : decode cL_law 970 = .ok (.invokevirtual 125, 3) := by decide +kernel
theorem dL_law_973 : decode cL_law 973 = .ok (.if_icmp .eq 500, 3) := by decide +kernel
theorem dL_law_976 : decode cL_law 976 = .ok (.iconst 0, 1) := by decide +kernel
theorem dL_law_977 : decode cL_law 977 = .ok (.ireturn, 1) := by decide +kernel
theorem dL_law_978 : decode cL_law 978 = .ok (.aload_n 1, 1) := by decide +kernel
theorem dL_law_979 : decode cL_law 979 = .ok (.aload_n 0, 1) := by decide +kernel
theorem dL_law_980 : decode cL_law 980 = .ok (.iload 4, 2) := by decide +kernel
theorem dL_law_982 : decode cL_law 982 = .ok (.iconst 1, 1) := by decide +kernel
theorem dL_law_983 : decode cL_law 983 = .ok (.iadd, 1) := by decide +kernel
theorem dL_law_984 : decode cL_law 984 = .ok (.iaload, 1) := by decide +kernel
theorem dL_law_985 : decode cL_law 985 = .ok (.invokevirtual 126, 3) := by decide +kernel
theorem dL_law_988 : decode cL_law 988 = .ok (.aload_n 2, 1) := by decide +kernel
theorem dL_law_989 : decode cL_law 989 = .ok (.aload_n 0, 1) := by decide +kernel
theorem dL_law_990 : decode cL_law 990 = .ok (.iload 4, 2) := by decide +kernel
theorem dL_law_992 : decode cL_law 992 = .ok (.iconst 1, 1) := by decide +kernel
theorem dL_law_993 : decode cL_law 993 = .ok (.iadd, 1) := by decide +kernel
theorem dL_law_994 : decode cL_law 994 = .ok (.iaload, 1) := by decide +kernel
theorem dL_law_995 : decode cL_law 995 = .ok (.invokevirtual 129, 3) := by decide +kernel
theorem dL_law_998 : decode cL_law 998 = .ok (.if_icmp .eq 475, 3) := by decide +kernel
theorem dL_law_1001 : decode cL_law 1001 = .ok (.iconst 0, 1) := by decide +kernel
theorem dL_law_1002 : decode cL_law 1002 = .ok (.ireturn, 1) := by decide +kernel
theorem dL_law_1003 : decode cL_law 1003 = .ok (.aload_n 1, 1) := by decide +kernel
theorem dL_law_1004 : decode cL_law 1004 = .ok (.aload_n 0, 1) := by decide +kernel
theorem dL_law_1005 : decode cL_law 1005 = .ok (.iload 4, 2) := by decide +kernel
theorem dL_law_1007 : decode cL_law 1007 = .ok (.iconst 1, 1) := by decide +kernel
theorem dL_law_1008 : decode cL_law 1008 = .ok (.iadd, 1) := by decide +kernel
theorem dL_law_1009 : decode cL_law 1009 = .ok (.iaload, 1) := by decide +kernel
theorem dL_law_1010 : decode cL_law 1010 = .ok (.invokevirtual 130, 3) := by decide +kernel
theorem dL_law_1013 : decode cL_law 1013 = .ok (.aload_n 2, 1) := by decide +kernel
theorem dL_law_1014 : decode cL_law 1014 = .ok (.aload_n 0, 1) := by decide +kernel
theorem dL_law_1015 : decode cL_law 1015 = .ok (.iload 4, 2) := by decide +kernel
theorem dL_law_1017 : decode cL_law 1017 = .ok (.iconst 1, 1) := by decide +kernel
theorem dL_law_1018 : decode cL_law 1018 = .ok (.iadd, 1) := by decide +kernel
theorem dL_law_1019 : decode cL_law 1019 = .ok (.iaload, 1) := by decide +kernel
theorem dL_law_1020 : decode cL_law 1020 = .ok (.invokevirtual 133, 3) := by decide +kernel
theorem dL_law_1023 : decode cL_law 1023 = .ok (.if_icmp .eq 450, 3) := by decide +kernel
theorem dL_law_1026 : decode cL_law 1026 = .ok (.iconst 0, 1) := by decide +kernel
theorem dL_law_1027 : decode cL_law 1027 = .ok (.ireturn, 1) := by decide +kernel
theorem dL_law_1028 : decode cL_law 1028 = .ok (.aload_n 1, 1) := by decide +kernel
theorem dL_law_1029 : decode cL_law 1029 = .ok (.invokevirtual 134, 3) := by decide +kernel
theorem dL_law_1032 : decode cL_law 1032 = .ok (.aload_n 2, 1) := by decide +kernel
theorem dL_law_1033 : decode cL_law 1033 = .ok (.invokevirtual 137, 3) := by decide +kernel
theorem dL_law_1036 : decode cL_law 1036 = .ok (.if_icmp .eq 437, 3) := by decide +kernel
theorem dL_law_1039 : decode cL_law 1039 = .ok (.iconst 0, 1) := by decide +kernel
theorem dL_law_1040 : decode cL_law 1040 = .ok (.ireturn, 1) := by decide +kernel
theorem dL_law_1041 : decode cL_law 1041 = .ok (.aload_n 1, 1) := by decide +kernel
theorem dL_law_1042 : decode cL_law 1042 = .ok (.invokevirtual 138, 3) := by decide +kernel
theorem dL_law_1045 : decode cL_law 1045 = .ok (.aload_n 2, 1) := by decide +kernel
theorem dL_law_1046 : decode cL_law 1046 = .ok (.invokevirtual 141, 3) := by decide +kernel
theorem dL_law_1049 : decode cL_law 1049 = .ok (.if_icmp .eq 424, 3) := by decide +kernel
theorem dL_law_1052 : decode cL_law 1052 = .ok (.iconst 0, 1) := by decide +kernel
theorem dL_law_1053 : decode cL_law 1053 = .ok (.ireturn, 1) := by decide +kernel
theorem dL_law_1054 : decode cL_law 1054 = .ok (.aload_n 1, 1) := by decide +kernel
theorem dL_law_1055 : decode cL_law 1055 = .ok (.aload_n 0, 1) := by decide +kernel
theorem dL_law_1056 : decode cL_law 1056 = .ok (.iload 4, 2) := by decide +kernel
theorem dL_law_1058 : decode cL_law 1058 = .ok (.iconst 1, 1) := by decide +kernel
theorem dL_law_1059 : decode cL_law 1059 = .ok (.iadd, 1) := by decide +kernel
theorem dL_law_1060 : decode cL_law 1060 = .ok (.iaload, 1) := by decide +kernel
theorem dL_law_1061 : decode cL_law 1061 = .ok (.invokevirtual 142, 3) := by decide +kernel
theorem dL_law_1064 : decode cL_law 1064 = .ok (.aload_n 2, 1) := by decide +kernel
theorem dL_law_1065 : decode cL_law 1065 = .ok (.aload_n 0, 1) := by decide +kernel
theorem dL_law_1066 : decode cL_law 1066 = .ok (.iload 4, 2) := by decide +kernel
theorem dL_law_1068 : decode cL_law 1068 = .ok (.iconst 1, 1) := by decide +kernel
theorem dL_law_1069 : decode cL_law 1069 = .ok (.iadd, 1) := by decide +kernel
theorem dL_law_1070 : decode cL_law 1070 = .ok (.iaload, 1) := by decide +kernel
theorem dL_law_1071 : decode cL_law 1071 = .ok (.invokevirtual 145, 3) := by decide +kernel
theorem dL_law_1074 : decode cL_law 1074 = .ok (.if_icmp .eq 399, 3) := by decide +kernel
theorem dL_law_1077 : decode cL_law 1077 = .ok (.iconst 0, 1) := by decide +kernel
theorem dL_law_1078 : decode cL_law 1078 = .ok (.ireturn, 1) := by decide +kernel
theorem dL_law_1079 : decode cL_law 1079 = .ok (.aload_n 1, 1) := by decide +kernel
theorem dL_law_1080 : decode cL_law 1080 = .ok (.aload_n 0, 1) := by decide +kernel
theorem dL_law_1081 : decode cL_law 1081 = .ok (.iload 4, 2) := by decide +kernel
theorem dL_law_1083 : decode cL_law 1083 = .ok (.iconst 1, 1) := by decide +kernel
theorem dL_law_1084 : decode cL_law 1084 = .ok (.iadd, 1) := by decide +kernel
theorem dL_law_1085 : decode cL_law 1085 = .ok (.iaload, 1) := by decide +kernel
theorem dL_law_1086 : decode cL_law 1086 = .ok (.invokevirtual 146, 3) := by decide +kernel
theorem dL_law_1089 : decode cL_law 1089 = .ok (.aload_n 2, 1) := by decide +kernel
theorem dL_law_1090 : decode cL_law 1090 = .ok (.aload_n 0, 1) := by decide +kernel
theorem dL_law_1091 : decode cL_law 1091 = .ok (.iload 4, 2) := by decide +kernel
theorem dL_law_1093 : decode cL_law 1093 = .ok (.iconst 1, 1) := by decide +kernel
theorem dL_law_1094 : decode cL_law 1094 = .ok (.iadd, 1) := by decide +kernel
theorem dL_law_1095 : decode cL_law 1095 = .ok (.iaload, 1) := by decide +kernel
theorem dL_law_1096 : decode cL_law 1096 = .ok (.invokevirtual 149, 3) := by decide +kernel
theorem dL_law_1099 : decode cL_law 1099 = .ok (.if_icmp .eq 374, 3) := by decide +kernel
theorem dL_law_1102 : decode cL_law 1102 = .ok (.iconst 0, 1) := by decide +kernel
theorem dL_law_1103 : decode cL_law 1103 = .ok (.ireturn, 1) := by decide +kernel
theorem dL_law_1104 : decode cL_law 1104 = .ok (.aload_n 1, 1) := by decide +kernel
theorem dL_law_1105 : decode cL_law 1105 = .ok (.aload_n 0, 1) := by decide +kernel
theorem dL_law_1106 : decode cL_law 1106 = .ok (.iload 4, 2) := by decide +kernel
theorem dL_law_1108 : decode cL_law 1108 = .ok (.iconst 1, 1) := by decide +kernel
theorem dL_law_1109 : decode cL_law 1109 = .ok (.iadd, 1) := by decide +kernel
theorem dL_law_1110 : decode cL_law 1110 = .ok (.iaload, 1) := by decide +kernel
theorem dL_law_1111 : decode cL_law 1111 = .ok (.invokevirtual 150, 3) := by decide +kernel
theorem dL_law_1114 : decode cL_law 1114 = .ok (.aload_n 2, 1) := by decide +kernel
theorem dL_law_1115 : decode cL_law 1115 = .ok (.aload_n 0, 1) := by decide +kernel
theorem dL_law_1116 : decode cL_law 1116 = .ok (.iload 4, 2) := by decide +kernel
theorem dL_law_1118 : decode cL_law 1118 = .ok (.iconst 1, 1) := by decide +kernel
theorem dL_law_1119 : decode cL_law 1119 = .ok (.iadd, 1) := by decide +kernel
theorem dL_law_1120 : decode cL_law 1120 = .ok (.iaload, 1) := by decide +kernel
theorem dL_law_1121 : decode cL_law 1121 = .ok (.invokevirtual 153, 3) := by decide +kernel
theorem dL_law_1124 : decode cL_law 1124 = .ok (.if_icmp .eq 349, 3) := by decide +kernel
theorem dL_law_1127 : decode cL_law 1127 = .ok (.iconst 0, 1) := by decide +kernel
theorem dL_law_1128 : decode cL_law 1128 = .ok (.ireturn, 1) := by decide +kernel
theorem dL_law_1129 : decode cL_law 1129 = .ok (.aload_n 1, 1) := by decide +kernel
theorem dL_law_1130 : decode cL_law 1130 = .ok (.invokevirtual 154, 3) := by decide +kernel
theorem dL_law_1133 : decode cL_law 1133 = .ok (.aload_n 2, 1) := by decide +kernel
theorem dL_law_1134 : decode cL_law 1134 = .ok (.invokevirtual 157, 3) := by decide +kernel
theorem dL_law_1137 : decode cL_law 1137 = .ok (.if_icmp .eq 336, 3) := by decide +kernel
theorem dL_law_1140 : decode cL_law 1140 = .ok (.iconst 0, 1) := by decide +kernel
theorem dL_law_1141 : decode cL_law 1141 = .ok (.ireturn, 1) := by decide +kernel
theorem dL_law_1142 : decode cL_law 1142 = .ok (.aload_n 1, 1) := by decide +kernel
theorem dL_law_1143 : decode cL_law 1143 = .ok (.invokevirtual 158, 3) := by decide +kernel
theorem dL_law_1146 : decode cL_law 1146 = .ok (.aload_n 2, 1) := by decide +kernel
theorem dL_law_1147 : decode cL_law 1147 = .ok (.invokevirtual 161, 3) := by decide +kernel
theorem dL_law_1150 : decode cL_law 1150 = .ok (.if_icmp .eq 323, 3) := by decide +kernel
theorem dL_law_1153 : decode cL_law 1153 = .ok (.iconst 0, 1) := by decide +kernel
theorem dL_law_1154 : decode cL_law 1154 = .ok (.ireturn, 1) := by decide +kernel
theorem dL_law_1155 : decode cL_law 1155 = .ok (.aload_n 1, 1) := by decide +kernel
theorem dL_law_1156 : decode cL_law 1156 = .ok (.aload_n 0, 1) := by decide +kernel
theorem dL_law_1157 : decode cL_law 1157 = .ok (.iload 4, 2) := by decide +kernel
theorem dL_law_1159 : decode cL_law 1159 = .ok (.iconst 1, 1) := by decide +kernel
theorem dL_law_1160 : decode cL_law 1160 = .ok (.iadd, 1) := by decide +kernel
theorem dL_law_1161 : decode cL_law 1161 = .ok (.iaload, 1) := by decide +kernel
theorem dL_law_1162 : decode cL_law 1162 = .ok (.aload_n 0, 1) := by decide +kernel
theorem dL_law_1163 : decode cL_law 1163 = .ok (.iload 4, 2) := by decide +kernel
theorem dL_law_1165 : decode cL_law 1165 = .ok (.iconst 2, 1) := by decide +kernel
theorem dL_law_1166 : decode cL_law 1166 = .ok (.iadd, 1) := by decide +kernel
theorem dL_law_1167 : decode cL_law 1167 = .ok (.iaload, 1) := by decide +kernel
theorem dL_law_1168 : decode cL_law 1168 = .ok (.invokevirtual 162, 3) := by decide +kernel
theorem dL_law_1171 : decode cL_law 1171 = .ok (.aload_n 2, 1) := by decide +kernel
theorem dL_law_1172 : decode cL_law 1172 = .ok (.aload_n 0, 1) := by decide +kernel
theorem dL_law_1173 : decode cL_law 1173 = .ok (.iload 4, 2) := by decide +kernel
theorem dL_law_1175 : decode cL_law 1175 = .ok (.iconst 1, 1) := by decide +kernel
theorem dL_law_1176 : decode cL_law 1176 = .ok (.iadd, 1) := by decide +kernel
theorem dL_law_1177 : decode cL_law 1177 = .ok (.iaload, 1) := by decide +kernel
theorem dL_law_1178 : decode cL_law 1178 = .ok (.aload_n 0, 1) := by decide +kernel
theorem dL_law_1179 : decode cL_law 1179 = .ok (.iload 4, 2) := by decide +kernel
theorem dL_law_1181 : decode cL_law 1181 = .ok (.iconst 2, 1) := by decide +kernel
theorem dL_law_1182 : decode cL_law 1182 = .ok (.iadd, 1) := by decide +kernel
theorem dL_law_1183 : decode cL_law 1183 = .ok (.iaload, 1) := by decide +kernel
theorem dL_law_1184 : decode cL_law 1184 = .ok (.invokevirtual 165, 3) := by decide +kernel
theorem dL_law_1187 : decode cL_law 1187 = .ok (.if_icmp .eq 286, 3) := by decide +kernel
theorem dL_law_1190 : decode cL_law 1190 = .ok (.iconst 0, 1) := by decide +kernel
theorem dL_law_1191 : decode cL_law 1191 = .ok (.ireturn, 1) := by decide +kernel
theorem dL_law_1192 : decode cL_law 1192 = .ok (.aload_n 1, 1) := by decide +kernel
theorem dL_law_1193 : decode cL_law 1193 = .ok (.aload_n 0, 1) := by decide +kernel
theorem dL_law_1194 : decode cL_law 1194 = .ok (.iload 4, 2) := by decide +kernel
theorem dL_law_1196 : decode cL_law 1196 = .ok (.iconst 1, 1) := by decide +kernel
theorem dL_law_1197 : decode cL_law 1197 = .ok (.iadd, 1) := by decide +kernel
theorem dL_law_1198 : decode cL_law 1198 = .ok (.iaload, 1) := by decide +kernel
theorem dL_law_1199 : decode cL_law 1199 = .ok (.aload_n 0, 1) := by decide +kernel
theorem dL_law_1200 : decode cL_law 1200 = .ok (.iload 4, 2) := by decide +kernel
theorem dL_law_1202 : decode cL_law 1202 = .ok (.iconst 2, 1) := by decide +kernel
theorem dL_law_1203 : decode cL_law 1203 = .ok (.iadd, 1) := by decide +kernel
theorem dL_law_1204 : decode cL_law 1204 = .ok (.iaload, 1) := by decide +kernel
theorem dL_law_1205 : decode cL_law 1205 = .ok (.invokevirtual 166, 3) := by decide +kernel
theorem dL_law_1208 : decode cL_law 1208 = .ok (.aload_n 2, 1) := by decide +kernel
theorem dL_law_1209 : decode cL_law 1209 = .ok (.aload_n 0, 1) := by decide +kernel
theorem dL_law_1210 : decode cL_law 1210 = .ok (.iload 4, 2) := by decide +kernel
theorem dL_law_1212 : decode cL_law 1212 = .ok (.iconst 1, 1) := by decide +kernel
theorem dL_law_1213 : decode cL_law 1213 = .ok (.iadd, 1) := by decide +kernel
theorem dL_law_1214 : decode cL_law 1214 = .ok (.iaload, 1) := by decide +kernel
theorem dL_law_1215 : decode cL_law 1215 = .ok (.aload_n 0, 1) := by decide +kernel
theorem dL_law_1216 : decode cL_law 1216 = .ok (.iload 4, 2) := by decide +kernel
theorem dL_law_1218 : decode cL_law 1218 = .ok (.iconst 2, 1) := by decide +kernel
theorem dL_law_1219 : decode cL_law 1219 = .ok (.iadd, 1) := by decide +kernel
theorem dL_law_1220 : decode cL_law 1220 = .ok (.iaload, 1) := by decide +kernel
theorem dL_law_1221 : decode cL_law 1221 = .ok (.invokevirtual 169, 3) := by decide +kernel
theorem dL_law_1224 : decode cL_law 1224 = .ok (.if_icmp .eq 249, 3) := by decide +kernel
theorem dL_law_1227 : decode cL_law 1227 = .ok (.iconst 0, 1) := by decide +kernel
theorem dL_law_1228 : decode cL_law 1228 = .ok (.ireturn, 1) := by decide +kernel
theorem dL_law_1229 : decode cL_law 1229 = .ok (.aload_n 1, 1) := by decide +kernel
theorem dL_law_1230 : decode cL_law 1230 = .ok (.aload_n 0, 1) := by decide +kernel
theorem dL_law_1231 : decode cL_law 1231 = .ok (.iload 4, 2) := by decide +kernel
theorem dL_law_1233 : decode cL_law 1233 = .ok (.iconst 1, 1) := by decide +kernel
theorem dL_law_1234 : decode cL_law 1234 = .ok (.iadd, 1) := by decide +kernel
theorem dL_law_1235 : decode cL_law 1235 = .ok (.iaload, 1) := by decide +kernel
theorem dL_law_1236 : decode cL_law 1236 = .ok (.invokevirtual 170, 3) := by decide +kernel
theorem dL_law_1239 : decode cL_law 1239 = .ok (.aload_n 2, 1) := by decide +kernel
theorem dL_law_1240 : decode cL_law 1240 = .ok (.aload_n 0, 1) := by decide +kernel
theorem dL_law_1241 : decode cL_law 1241 = .ok (.iload 4, 2) := by decide +kernel
theorem dL_law_1243 : decode cL_law 1243 = .ok (.iconst 1, 1) := by decide +kernel
theorem dL_law_1244 : decode cL_law 1244 = .ok (.iadd, 1) := by decide +kernel
theorem dL_law_1245 : decode cL_law 1245 = .ok (.iaload, 1) := by decide +kernel
theorem dL_law_1246 : decode cL_law 1246 = .ok (.invokevirtual 173, 3) := by decide +kernel
theorem dL_law_1249 : decode cL_law 1249 = .ok (.if_icmp .eq 224, 3) := by decide +kernel
theorem dL_law_1252 : decode cL_law 1252 = .ok (.iconst 0, 1) := by decide +kernel
theorem dL_law_1253 : decode cL_law 1253 = .ok (.ireturn, 1) := by decide +kernel
theorem dL_law_1254 : decode cL_law 1254 = .ok (.aload_n 1, 1) := by decide +kernel
theorem dL_law_1255 : decode cL_law 1255 = .ok (.aload_n 0, 1) := by decide +kernel
theorem dL_law_1256 : decode cL_law 1256 = .ok (.iload 4, 2) := by decide +kernel
theorem dL_law_1258 : decode cL_law 1258 = .ok (.iconst 1, 1) := by decide +kernel
theorem dL_law_1259 : decode cL_law 1259 = .ok (.iadd, 1) := by decide +kernel
theorem dL_law_1260 : decode cL_law 1260 = .ok (.iaload, 1) := by decide +kernel
theorem dL_law_1261 : decode cL_law 1261 = .ok (.aload_n 0, 1) := by decide +kernel
theorem dL_law_1262 : decode cL_law 1262 = .ok (.iload 4, 2) := by decide +kernel
theorem dL_law_1264 : decode cL_law 1264 = .ok (.iconst 2, 1) := by decide +kernel
theorem dL_law_1265 : decode cL_law 1265 = .ok (.iadd, 1) := by decide +kernel
theorem dL_law_1266 : decode cL_law 1266 = .ok (.iaload, 1) := by decide +kernel
theorem dL_law_1267 : decode cL_law 1267 = .ok (.aload_n 0, 1) := by decide +kernel
theorem dL_law_1268 : decode cL_law 1268 = .ok (.iload 4, 2) := by decide +kernel
theorem dL_law_1270 : decode cL_law 1270 = .ok (.iconst 3, 1) := by decide +kernel
theorem dL_law_1271 : decode cL_law 1271 = .ok (.iadd, 1) := by decide +kernel
theorem dL_law_1272 : decode cL_law 1272 = .ok (.iaload, 1) := by decide +kernel
theorem dL_law_1273 : decode cL_law 1273 = .ok (.aload_n 0, 1) := by decide +kernel
theorem dL_law_1274 : decode cL_law 1274 = .ok (.iload 4, 2) := by decide +kernel
theorem dL_law_1276 : decode cL_law 1276 = .ok (.iconst 4, 1) := by decide +kernel
theorem dL_law_1277 : decode cL_law 1277 = .ok (.iadd, 1) := by decide +kernel
theorem dL_law_1278 : decode cL_law 1278 = .ok (.iaload, 1) := by decide +kernel
theorem dL_law_1279 : decode cL_law 1279 = .ok (.aload_n 3, 1) := by decide +kernel
theorem dL_law_1280 : decode cL_law 1280 = .ok (.invokestatic 174, 3) := by decide +kernel
theorem dL_law_1283 : decode cL_law 1283 = .ok (.istore 5, 2) := by decide +kernel
theorem dL_law_1285 : decode cL_law 1285 = .ok (.aload_n 2, 1) := by decide +kernel
theorem dL_law_1286 : decode cL_law 1286 = .ok (.aload_n 0, 1) := by decide +kernel
theorem dL_law_1287 : decode cL_law 1287 = .ok (.iload 4, 2) := by decide +kernel
theorem dL_law_1289 : decode cL_law 1289 = .ok (.iconst 1, 1) := by decide +kernel
theorem dL_law_1290 : decode cL_law 1290 = .ok (.iadd, 1) := by decide +kernel
theorem dL_law_1291 : decode cL_law 1291 = .ok (.iaload, 1) := by decide +kernel
theorem dL_law_1292 : decode cL_law 1292 = .ok (.aload_n 0, 1) := by decide +kernel
theorem dL_law_1293 : decode cL_law 1293 = .ok (.iload 4, 2) := by decide +kernel
theorem dL_law_1295 : decode cL_law 1295 = .ok (.iconst 2, 1) := by decide +kernel
theorem dL_law_1296 : decode cL_law 1296 = .ok (.iadd, 1) := by decide +kernel
theorem dL_law_1297 : decode cL_law 1297 = .ok (.iaload, 1) := by decide +kernel
theorem dL_law_1298 : decode cL_law 1298 = .ok (.aload_n 0, 1) := by decide +kernel
theorem dL_law_1299 : decode cL_law 1299 = .ok (.iload 4, 2) := by decide +kernel
theorem dL_law_1301 : decode cL_law 1301 = .ok (.iconst 3, 1) := by decide +kernel
theorem dL_law_1302 : decode cL_law 1302 = .ok (.iadd, 1) := by decide +kernel
theorem dL_law_1303 : decode cL_law 1303 = .ok (.iaload, 1) := by decide +kernel
theorem dL_law_1304 : decode cL_law 1304 = .ok (.aload_n 0, 1) := by decide +kernel
theorem dL_law_1305 : decode cL_law 1305 = .ok (.iload 4, 2) := by decide +kernel
theorem dL_law_1307 : decode cL_law 1307 = .ok (.iconst 4, 1) := by decide +kernel
theorem dL_law_1308 : decode cL_law 1308 = .ok (.iadd, 1) := by decide +kernel
theorem dL_law_1309 : decode cL_law 1309 = .ok (.iaload, 1) := by decide +kernel
theorem dL_law_1310 : decode cL_law 1310 = .ok (.invokevirtual 179, 3) := by decide +kernel
theorem dL_law_1313 : decode cL_law 1313 = .ok (.istore 6, 2) := by decide +kernel
theorem dL_law_1315 : decode cL_law 1315 = .ok (.aload_n 2, 1) := by decide +kernel
theorem dL_law_1316 : decode cL_law 1316 = .ok (.invokevirtual 180, 3) := by decide +kernel
theorem dL_law_1319 : decode cL_law 1319 = .ok (.iload 5, 2) := by decide +kernel
theorem dL_law_1321 : decode cL_law 1321 = .ok (.if_icmp .eq 5, 3) := by decide +kernel
theorem dL_law_1324 : decode cL_law 1324 = .ok (.iconst 0, 1) := by decide +kernel
theorem dL_law_1325 : decode cL_law 1325 = .ok (.ireturn, 1) := by decide +kernel
theorem dL_law_1326 : decode cL_law 1326 = .ok (.iload 5, 2) := by decide +kernel
theorem dL_law_1328 : decode cL_law 1328 = .ok (.ifCond .ne 15, 3) := by decide +kernel
theorem dL_law_1331 : decode cL_law 1331 = .ok (.aload_n 3, 1) := by decide +kernel
theorem dL_law_1332 : decode cL_law 1332 = .ok (.iconst 0, 1) := by decide +kernel
theorem dL_law_1333 : decode cL_law 1333 = .ok (.laload, 1) := by decide +kernel
theorem dL_law_1334 : decode cL_law 1334 = .ok (.iload 6, 2) := by decide +kernel
theorem dL_law_1336 : decode cL_law 1336 = .ok (.i2l, 1) := by decide +kernel
theorem dL_law_1337 : decode cL_law 1337 = .ok (.lcmp, 1) := by decide +kernel
theorem dL_law_1338 : decode cL_law 1338 = .ok (.ifCond .eq 5, 3) := by decide +kernel
theorem dL_law_1341 : decode cL_law 1341 = .ok (.iconst 0, 1) := by decide +kernel
theorem dL_law_1342 : decode cL_law 1342 = .ok (.ireturn, 1) := by decide +kernel
theorem dL_law_1343 : decode cL_law 1343 = .ok (.goto 130, 3) := by decide +kernel
theorem dL_law_1346 : decode cL_law 1346 = .ok (.aload_n 1, 1) := by decide +kernel
theorem dL_law_1347 : decode cL_law 1347 = .ok (.aload_n 0, 1) := by decide +kernel
theorem dL_law_1348 : decode cL_law 1348 = .ok (.iload 4, 2) := by decide +kernel
theorem dL_law_1350 : decode cL_law 1350 = .ok (.iconst 1, 1) := by decide +kernel
theorem dL_law_1351 : decode cL_law 1351 = .ok (.iadd, 1) := by decide +kernel
theorem dL_law_1352 : decode cL_law 1352 = .ok (.iaload, 1) := by decide +kernel
theorem dL_law_1353 : decode cL_law 1353 = .ok (.aload_n 0, 1) := by decide +kernel
theorem dL_law_1354 : decode cL_law 1354 = .ok (.iload 4, 2) := by decide +kernel
theorem dL_law_1356 : decode cL_law 1356 = .ok (.iconst 2, 1) := by decide +kernel
theorem dL_law_1357 : decode cL_law 1357 = .ok (.iadd, 1) := by decide +kernel
theorem dL_law_1358 : decode cL_law 1358 = .ok (.iaload, 1) := by decide +kernel
theorem dL_law_1359 : decode cL_law 1359 = .ok (.aload_n 0, 1) := by decide +kernel
theorem dL_law_1360 : decode cL_law 1360 = .ok (.iload 4, 2) := by decide +kernel
theorem dL_law_1362 : decode cL_law 1362 = .ok (.iconst 3, 1) := by decide +kernel
theorem dL_law_1363 : decode cL_law 1363 = .ok (.iadd, 1) := by decide +kernel
theorem dL_law_1364 : decode cL_law 1364 = .ok (.iaload, 1) := by decide +kernel
theorem dL_law_1365 : decode cL_law 1365 = .ok (.invokevirtual 183, 3) := by decide +kernel
theorem dL_law_1368 : decode cL_law 1368 = .ok (.aload_n 2, 1) := by decide +kernel
theorem dL_law_1369 : decode cL_law 1369 = .ok (.aload_n 0, 1) := by decide +kernel
theorem dL_law_1370 : decode cL_law 1370 = .ok (.iload 4, 2) := by decide +kernel
theorem dL_law_1372 : decode cL_law 1372 = .ok (.iconst 1, 1) := by decide +kernel
theorem dL_law_1373 : decode cL_law 1373 = .ok (.iadd, 1) := by decide +kernel
theorem dL_law_1374 : decode cL_law 1374 = .ok (.iaload, 1) := by decide +kernel
theorem dL_law_1375 : decode cL_law 1375 = .ok (.aload_n 0, 1) := by decide +kernel
theorem dL_law_1376 : decode cL_law 1376 = .ok (.iload 4, 2) := by decide +kernel
theorem dL_law_1378 : decode cL_law 1378 = .ok (.iconst 2, 1) := by decide +kernel
theorem dL_law_1379 : decode cL_law 1379 = .ok (.iadd, 1) := by decide +kernel
theorem dL_law_1380 : decode cL_law 1380 = .ok (.iaload, 1) := by decide +kernel
theorem dL_law_1381 : decode cL_law 1381 = .ok (.aload_n 0, 1) := by decide +kernel
theorem dL_law_1382 : decode cL_law 1382 = .ok (.iload 4, 2) := by decide +kernel
theorem dL_law_1384 : decode cL_law 1384 = .ok (.iconst 3, 1) := by decide +kernel
theorem dL_law_1385 : decode cL_law 1385 = .ok (.iadd, 1) := by decide +kernel
theorem dL_law_1386 : decode cL_law 1386 = .ok (.iaload, 1) := by decide +kernel
theorem dL_law_1387 : decode cL_law 1387 = .ok (.invokevirtual 186, 3) := by decide +kernel
theorem dL_law_1390 : decode cL_law 1390 = .ok (.if_icmp .eq 83, 3) := by decide +kernel
theorem dL_law_1393 : decode cL_law 1393 = .ok (.iconst 0, 1) := by decide +kernel
theorem dL_law_1394 : decode cL_law 1394 = .ok (.ireturn, 1) := by decide +kernel
theorem dL_law_1395 : decode cL_law 1395 = .ok (.aload_n 1, 1) := by decide +kernel
theorem dL_law_1396 : decode cL_law 1396 = .ok (.aload_n 0, 1) := by decide +kernel
theorem dL_law_1397 : decode cL_law 1397 = .ok (.iload 4, 2) := by decide +kernel
theorem dL_law_1399 : decode cL_law 1399 = .ok (.iconst 1, 1) := by decide +kernel
theorem dL_law_1400 : decode cL_law 1400 = .ok (.iadd, 1) := by decide +kernel
theorem dL_law_1401 : decode cL_law 1401 = .ok (.iaload, 1) := by decide +kernel
theorem dL_law_1402 : decode cL_law 1402 = .ok (.aload_n 0, 1) := by decide +kernel
theorem dL_law_1403 : decode cL_law 1403 = .ok (.iload 4, 2) := by decide +kernel
theorem dL_law_1405 : decode cL_law 1405 = .ok (.iconst 2, 1) := by decide +kernel
theorem dL_law_1406 : decode cL_law 1406 = .ok (.iadd, 1) := by decide +kernel
theorem dL_law_1407 : decode cL_law 1407 = .ok (.iaload, 1) := by decide +kernel
theorem dL_law_1408 : decode cL_law 1408 = .ok (.ifCond .eq 7, 3) := by decide +kernel
theorem dL_law_1411 : decode cL_law 1411 = .ok (.iconst 1, 1) := by decide +kernel
theorem dL_law_1412 : decode cL_law 1412 = .ok (.goto 4, 3) := by decide +kernel
theorem dL_law_1415 : decode cL_law 1415 = .ok (.iconst 0, 1) := by decide +kernel
theorem dL_law_1416 : decode cL_law 1416 = .ok (.invokevirtual 187, 3) := by decide +kernel
theorem dL_law_1419 : decode cL_law 1419 = .ok (.aload_n 2, 1) := by decide +kernel
theorem dL_law_1420 : decode cL_law 1420 = .ok (.aload_n 0, 1) := by decide +kernel
theorem dL_law_1421 : decode cL_law 1421 = .ok (.iload 4, 2) := by decide +kernel
theorem dL_law_1423 : decode cL_law 1423 = .ok (.iconst 1, 1) := by decide +kernel
theorem dL_law_1424 : decode cL_law 1424 = .ok (.iadd, 1) := by decide +kernel
theorem dL_law_1425 : decode cL_law 1425 = .ok (.iaload, 1) := by decide +kernel
theorem dL_law_1426 : decode cL_law 1426 = .ok (.aload_n 0, 1) := by decide +kernel
theorem dL_law_1427 : decode cL_law 1427 = .ok (.iload 4, 2) := by decide +kernel
theorem dL_law_1429 : decode cL_law 1429 = .ok (.iconst 2, 1) := by decide +kernel
theorem dL_law_1430 : decode cL_law 1430 = .ok (.iadd, 1) := by decide +kernel
theorem dL_law_1431 : decode cL_law 1431 = .ok (.iaload, 1) := by decide +kernel
theorem dL_law_1432 : decode cL_law 1432 = .ok (.ifCond .eq 7, 3) := by decide +kernel
theorem dL_law_1435 : decode cL_law 1435 = .ok (.iconst 1, 1) := by decide +kernel
theorem dL_law_1436 : decode cL_law 1436 = .ok (.goto 4, 3) := by decide +kernel
theorem dL_law_1439 : decode cL_law 1439 = .ok (.iconst 0, 1) := by decide +kernel
theorem dL_law_1440 : decode cL_law 1440 = .ok (.invokevirtual 190, 3) := by decide +kernel
theorem dL_law_1443 : decode cL_law 1443 = .ok (.if_icmp .eq 30, 3) := by decide +kernel
theorem dL_law_1446 : decode cL_law 1446 = .ok (.iconst 0, 1) := by decide +kernel
theorem dL_law_1447 : decode cL_law 1447 = .ok (.ireturn, 1) := by decide +kernel
theorem dL_law_1448 : decode cL_law 1448 = .ok (.aload_n 1, 1) := by decide +kernel
theorem dL_law_1449 : decode cL_law 1449 = .ok (.aload_n 0, 1) := by decide +kernel
theorem dL_law_1450 : decode cL_law 1450 = .ok (.iload 4, 2) := by decide +kernel
theorem dL_law_1452 : decode cL_law 1452 = .ok (.iconst 1, 1) := by decide +kernel
theorem dL_law_1453 : decode cL_law 1453 = .ok (.iadd, 1) := by decide +kernel
theorem dL_law_1454 : decode cL_law 1454 = .ok (.iaload, 1) := by decide +kernel
theorem dL_law_1455 : decode cL_law 1455 = .ok (.invokevirtual 191, 3) := by decide +kernel
theorem dL_law_1458 : decode cL_law 1458 = .ok (.aload_n 2, 1) := by decide +kernel
theorem dL_law_1459 : decode cL_law 1459 = .ok (.aload_n 0, 1) := by decide +kernel
theorem dL_law_1460 : decode cL_law 1460 = .ok (.iload 4, 2) := by decide +kernel
theorem dL_law_1462 : decode cL_law 1462 = .ok (.iconst 1, 1) := by decide +kernel
theorem dL_law_1463 : decode cL_law 1463 = .ok (.iadd, 1) := by decide +kernel
theorem dL_law_1464 : decode cL_law 1464 = .ok (.iaload, 1) := by decide +kernel
theorem dL_law_1465 : decode cL_law 1465 = .ok (.invokevirtual 194, 3) := by decide +kernel
theorem dL_law_1468 : decode cL_law 1468 = .ok (.if_icmp .eq 5, 3) := by decide +kernel
theorem dL_law_1471 : decode cL_law 1471 = .ok (.iconst 0, 1) := by decide +kernel
theorem dL_law_1472 : decode cL_law 1472 = .ok (.ireturn, 1) := by decide +kernel
theorem dL_law_1473 : decode cL_law 1473 = .ok (.iinc 4 7, 3) := by decide +kernel
theorem dL_law_1476 : decode cL_law 1476 = .ok (.goto (-1453), 3) := by decide +kernel
theorem dL_law_1479 : decode cL_law 1479 = .ok (.iconst 1, 1) := by decide +kernel
theorem dL_law_1480 : decode cL_law 1480 = .ok (.ireturn, 1) := by decide +kernel
