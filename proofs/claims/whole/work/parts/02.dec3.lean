theorem dX12_readLine_88 : decode cX12_readLine 88 = .ok (.iconst 2, 1) := by decide +kernel
theorem dX12_readLine_89 : decode cX12_readLine 89 = .ok (.iconst 5, 1) := by decide +kernel
theorem dX12_readLine_90 : decode cX12_readLine 90 = .ok (.bipush 40, 2) := by decide +kernel
theorem dX12_readLine_92 : decode cX12_readLine 92 = .ok (.invokevirtual 220, 3) := by decide +kernel
theorem dX12_readLine_95 : decode cX12_readLine 95 = .ok (.aload_n 0, 1) := by decide +kernel
theorem dX12_readLine_96 : decode cX12_readLine 96 = .ok (.bipush 6, 2) := by decide +kernel
theorem dX12_readLine_98 : decode cX12_readLine 98 = .ok (.iconst 0, 1) := by decide +kernel
theorem dX12_readLine_99 : decode cX12_readLine 99 = .ok (.bipush 99, 2) := by decide +kernel
theorem dX12_readLine_101 : decode cX12_readLine 101 = .ok (.invokevirtual 224, 3) := by decide +kernel
theorem dX12_readLine_104 : decode cX12_readLine 104 = .ok (.istore_n 2, 1) := by decide +kernel
theorem dX12_readLine_105 : decode cX12_readLine 105 = .ok (.aload_n 0, 1) := by decide +kernel
theorem dX12_readLine_106 : decode cX12_readLine 106 = .ok (.getfield 159, 3) := by decide +kernel
theorem dX12_readLine_109 : decode cX12_readLine 109 = .ok (.ifCond .ne 10, 3) := by decide +kernel
theorem dX12_readLine_112 : decode cX12_readLine 112 = .ok (.aload_n 0, 1) := by decide +kernel
theorem dX12_readLine_113 : decode cX12_readLine 113 = .ok (.getfield 89, 3) := by decide +kernel
theorem dX12_readLine_116 : decode cX12_readLine 116 = .ok (.iload_n 1, 1) := by decide +kernel
theorem dX12_readLine_117 : decode cX12_readLine 117 = .ok (.iload_n 2, 1) := by decide +kernel
theorem dX12_readLine_118 : decode cX12_readLine 118 = .ok (.iastore, 1) := by decide +kernel
theorem dX12_readLine_119 : decode cX12_readLine 119 = .ok (.goto 7, 3) := by decide +kernel
theorem dX12_readLine_122 : decode cX12_readLine 122 = .ok (.aload_n 0, 1) := by decide +kernel
theorem dX12_readLine_123 : decode cX12_readLine 123 = .ok (.invokevirtual 228, 3) := by decide +kernel
theorem dX12_readLine_126 : decode cX12_readLine 126 = .ok (.return_, 1) := by decide +kernel
theorem dX12_readName_0 : decode cX12_readName 0 = .ok (.aload_n 0, 1) := by decide +kernel
theorem dX12_readName_1 : decode cX12_readName 1 = .ok (.getfield 89, 3) := by decide +kernel
theorem dX12_readName_4 : decode cX12_readName 4 = .ok (.bipush 60, 2) := by decide +kernel
theorem dX12_readName_6 : decode cX12_readName 6 = .ok (.iload_n 1, 1) := by decide +kernel
theorem dX12_readName_7 : decode cX12_readName 7 = .ok (.iadd, 1) := by decide +kernel
theorem dX12_readName_8 : decode cX12_readName 8 = .ok (.iaload, 1) := by decide +kernel
theorem dX12_readName_9 : decode cX12_readName 9 = .ok (.istore 4, 2) := by decide +kernel
theorem dX12_readName_11 : decode cX12_readName 11 = .ok (.iload 4, 2) := by decide +kernel
theorem dX12_readName_13 : decode cX12_readName 13 = .ok (.iload_n 2, 1) := by decide +kernel
theorem dX12_readName_14 : decode cX12_readName 14 = .ok (.if_icmp .ne 9, 3) := by decide +kernel
theorem dX12_readName_17 : decode cX12_readName 17 = .ok (.aload_n 0, 1) := by decide +kernel
theorem dX12_readName_18 : decode cX12_readName 18 = .ok (.iconst 5, 1) := by decide +kernel
theorem dX12_readName_19 : decode cX12_readName 19 = .ok (.invokevirtual 165, 3) := by decide +kernel
theorem dX12_readName_22 : decode cX12_readName 22 = .ok (.return_, 1) := by decide +kernel
theorem dX12_readName_23 : decode cX12_readName 23 = .ok (.aload_n 0, 1) := by decide +kernel
theorem dX12_readName_24 : decode cX12_readName 24 = .ok (.dup, 1) := by decide +kernel
theorem dX12_readName_25 : decode cX12_readName 25 = .ok (.getfield 156, 3) := by decide +kernel
theorem dX12_readName_28 : decode cX12_readName 28 = .ok (.iconst 1, 1) := by decide +kernel
theorem dX12_readName_29 : decode cX12_readName 29 = .ok (.iadd, 1) := by decide +kernel
theorem dX12_readName_30 : decode cX12_readName 30 = .ok (.putfield 156, 3) := by decide +kernel
theorem dX12_readName_33 : decode cX12_readName 33 = .ok (.aload_n 0, 1) := by decide +kernel
theorem dX12_readName_34 : decode cX12_readName 34 = .ok (.invokevirtual 190, 3) := by decide +kernel
theorem dX12_readName_37 : decode cX12_readName 37 = .ok (.ifCond .ne 11, 3) := by decide +kernel
theorem dX12_readName_40 : decode cX12_readName 40 = .ok (.aload_n 0, 1) := by decide +kernel
theorem dX12_readName_41 : decode cX12_readName 41 = .ok (.iconst 1, 1) := by decide +kernel
theorem dX12_readName_42 : decode cX12_readName 42 = .ok (.invokevirtual 165, 3) := by decide +kernel
theorem dX12_readName_45 : decode cX12_readName 45 = .ok (.goto 16, 3) := by decide +kernel
theorem dX12_readName_48 : decode cX12_readName 48 = .ok (.aload_n 0, 1) := by decide +kernel
theorem dX12_readName_49 : decode cX12_readName 49 = .ok (.iconst 1, 1) := by decide +kernel
theorem dX12_readName_50 : decode cX12_readName 50 = .ok (.invokevirtual 194, 3) := by decide +kernel
theorem dX12_readName_53 : decode cX12_readName 53 = .ok (.ifCond .lt 8, 3) := by decide +kernel
theorem dX12_readName_56 : decode cX12_readName 56 = .ok (.aload_n 0, 1) := by decide +kernel
theorem dX12_readName_57 : decode cX12_readName 57 = .ok (.iconst 3, 1) := by decide +kernel
theorem dX12_readName_58 : decode cX12_readName 58 = .ok (.invokevirtual 165, 3) := by decide +kernel
theorem dX12_readName_61 : decode cX12_readName 61 = .ok (.aload_n 0, 1) := by decide +kernel
theorem dX12_readName_62 : decode cX12_readName 62 = .ok (.getfield 159, 3) := by decide +kernel
theorem dX12_readName_65 : decode cX12_readName 65 = .ok (.ifCond .ne 67, 3) := by decide +kernel
theorem dX12_readName_68 : decode cX12_readName 68 = .ok (.aload_n 0, 1) := by decide +kernel
theorem dX12_readName_69 : decode cX12_readName 69 = .ok (.getfield 101, 3) := by decide +kernel
theorem dX12_readName_72 : decode cX12_readName 72 = .ok (.aload_n 0, 1) := by decide +kernel
theorem dX12_readName_73 : decode cX12_readName 73 = .ok (.getfield 184, 3) := by decide +kernel
theorem dX12_readName_76 : decode cX12_readName 76 = .ok (.aload_n 0, 1) := by decide +kernel
theorem dX12_readName_77 : decode cX12_readName 77 = .ok (.getfield 30, 3) := by decide +kernel
theorem dX12_readName_80 : decode cX12_readName 80 = .ok (.aload_n 0, 1) := by decide +kernel
theorem dX12_readName_81 : decode cX12_readName 81 = .ok (.getfield 156, 3) := by decide +kernel
theorem dX12_readName_84 : decode cX12_readName 84 = .ok (.laload, 1) := by decide +kernel
theorem dX12_readName_85 : decode cX12_readName 85 = .ok (.lastore, 1) := by decide +kernel
theorem dX12_readName_86 : decode cX12_readName 86 = .ok (.aload_n 0, 1) := by decide +kernel
theorem dX12_readName_87 : decode cX12_readName 87 = .ok (.getfield 107, 3) := by decide +kernel
theorem dX12_readName_90 : decode cX12_readName 90 = .ok (.aload_n 0, 1) := by decide +kernel
theorem dX12_readName_91 : decode cX12_readName 91 = .ok (.getfield 184, 3) := by decide +kernel
theorem dX12_readName_94 : decode cX12_readName 94 = .ok (.iload_n 3, 1) := by decide +kernel
theorem dX12_readName_95 : decode cX12_readName 95 = .ok (.iload 4, 2) := by decide +kernel
theorem dX12_readName_97 : decode cX12_readName 97 = .ok (.iadd, 1) := by decide +kernel
theorem dX12_readName_98 : decode cX12_readName 98 = .ok (.iastore, 1) := by decide +kernel
theorem dX12_readName_99 : decode cX12_readName 99 = .ok (.aload_n 0, 1) := by decide +kernel
theorem dX12_readName_100 : decode cX12_readName 100 = .ok (.dup, 1) := by decide +kernel
theorem dX12_readName_101 : decode cX12_readName 101 = .ok (.getfield 184, 3) := by decide +kernel
theorem dX12_readName_104 : decode cX12_readName 104 = .ok (.iconst 1, 1) := by decide +kernel
theorem dX12_readName_105 : decode cX12_readName 105 = .ok (.iadd, 1) := by decide +kernel
theorem dX12_readName_106 : decode cX12_readName 106 = .ok (.putfield 184, 3) := by decide +kernel
theorem dX12_readName_109 : decode cX12_readName 109 = .ok (.aload_n 0, 1) := by decide +kernel
theorem dX12_readName_110 : decode cX12_readName 110 = .ok (.dup, 1) := by decide +kernel
theorem dX12_readName_111 : decode cX12_readName 111 = .ok (.getfield 156, 3) := by decide +kernel
theorem dX12_readName_114 : decode cX12_readName 114 = .ok (.iconst 1, 1) := by decide +kernel
theorem dX12_readName_115 : decode cX12_readName 115 = .ok (.iadd, 1) := by decide +kernel
theorem dX12_readName_116 : decode cX12_readName 116 = .ok (.putfield 156, 3) := by decide +kernel
theorem dX12_readName_119 : decode cX12_readName 119 = .ok (.aload_n 0, 1) := by decide +kernel
theorem dX12_readName_120 : decode cX12_readName 120 = .ok (.getfield 89, 3) := by decide +kernel
theorem dX12_readName_123 : decode cX12_readName 123 = .ok (.bipush 60, 2) := by decide +kernel
theorem dX12_readName_125 : decode cX12_readName 125 = .ok (.iload_n 1, 1) := by decide +kernel
theorem dX12_readName_126 : decode cX12_readName 126 = .ok (.iadd, 1) := by decide +kernel
theorem dX12_readName_127 : decode cX12_readName 127 = .ok (.dup2, 1) := by decide +kernel
theorem dX12_readName_128 : decode cX12_readName 128 = .ok (.iaload, 1) := by decide +kernel
theorem dX12_readName_129 : decode cX12_readName 129 = .ok (.iconst 1, 1) := by decide +kernel
theorem dX12_readName_130 : decode cX12_readName 130 = .ok (.iadd, 1) := by decide +kernel
theorem dX12_readName_131 : decode cX12_readName 131 = .ok (.iastore, 1) := by decide +kernel
theorem dX12_readName_132 : decode cX12_readName 132 = .ok (.return_, 1) := by decide +kernel
theorem dX12_readPane_0 : decode cX12_readPane 0 = .ok (.bipush 65, 2) := by decide +kernel
theorem dX12_readPane_2 : decode cX12_readPane 2 = .ok (.iconst 3, 1) := by decide +kernel
theorem dX12_readPane_3 : decode cX12_readPane 3 = .ok (.aload_n 0, 1) := by decide +kernel
theorem dX12_readPane_4 : decode cX12_readPane 4 = .ok (.getfield 89, 3) := by decide +kernel
theorem dX12_readPane_7 : decode cX12_readPane 7 = .ok (.bipush 60, 2) := by decide +kernel
theorem dX12_readPane_9 : decode cX12_readPane 9 = .ok (.iaload, 1) := by decide +kernel
theorem dX12_readPane_10 : decode cX12_readPane 10 = .ok (.imul, 1) := by decide +kernel
theorem dX12_readPane_11 : decode cX12_readPane 11 = .ok (.iadd, 1) := by decide +kernel
theorem dX12_readPane_12 : decode cX12_readPane 12 = .ok (.istore_n 1, 1) := by decide +kernel
theorem dX12_readPane_13 : decode cX12_readPane 13 = .ok (.aload_n 0, 1) := by decide +kernel
theorem dX12_readPane_14 : decode cX12_readPane 14 = .ok (.iconst 0, 1) := by decide +kernel
theorem dX12_readPane_15 : decode cX12_readPane 15 = .ok (.bipush 6, 2) := by decide +kernel
theorem dX12_readPane_17 : decode cX12_readPane 17 = .ok (.iconst 0, 1) := by decide +kernel
theorem dX12_readPane_18 : decode cX12_readPane 18 = .ok (.invokevirtual 220, 3) := by decide +kernel
theorem dX12_readPane_21 : decode cX12_readPane 21 = .ok (.aload_n 0, 1) := by decide +kernel
theorem dX12_readPane_22 : decode cX12_readPane 22 = .ok (.bipush 15, 2) := by decide +kernel
theorem dX12_readPane_24 : decode cX12_readPane 24 = .ok (.iconst 4, 1) := by decide +kernel
theorem dX12_readPane_25 : decode cX12_readPane 25 = .ok (.invokevirtual 231, 3) := by decide +kernel
theorem dX12_readPane_28 : decode cX12_readPane 28 = .ok (.istore_n 2, 1) := by decide +kernel
theorem dX12_readPane_29 : decode cX12_readPane 29 = .ok (.aload_n 0, 1) := by decide +kernel
theorem dX12_readPane_30 : decode cX12_readPane 30 = .ok (.iconst 1, 1) := by decide +kernel
theorem dX12_readPane_31 : decode cX12_readPane 31 = .ok (.iconst 1, 1) := by decide +kernel
theorem dX12_readPane_32 : decode cX12_readPane 32 = .ok (.bipush 6, 2) := by decide +kernel
theorem dX12_readPane_34 : decode cX12_readPane 34 = .ok (.invokevirtual 224, 3) := by decide +kernel
theorem dX12_readPane_37 : decode cX12_readPane 37 = .ok (.istore_n 3, 1) := by decide +kernel
theorem dX12_readPane_38 : decode cX12_readPane 38 = .ok (.aload_n 0, 1) := by decide +kernel
theorem dX12_readPane_39 : decode cX12_readPane 39 = .ok (.iconst 2, 1) := by decide +kernel
theorem dX12_readPane_40 : decode cX12_readPane 40 = .ok (.invokevirtual 174, 3) := by decide +kernel
theorem dX12_readPane_43 : decode cX12_readPane 43 = .ok (.iconst 0, 1) := by decide +kernel
theorem dX12_readPane_44 : decode cX12_readPane 44 = .ok (.istore 4, 2) := by decide +kernel
theorem dX12_readPane_46 : decode cX12_readPane 46 = .ok (.aload_n 0, 1) := by decide +kernel
theorem dX12_readPane_47 : decode cX12_readPane 47 = .ok (.getfield 159, 3) := by decide +kernel
theorem dX12_readPane_50 : decode cX12_readPane 50 = .ok (.ifCond .ne 75, 3) := by decide +kernel
theorem dX12_readPane_53 : decode cX12_readPane 53 = .ok (.iload 4, 2) := by decide +kernel
theorem dX12_readPane_55 : decode cX12_readPane 55 = .ok (.ifCond .eq 16, 3) := by decide +kernel
theorem dX12_readPane_58 : decode cX12_readPane 58 = .ok (.aload_n 0, 1) := by decide +kernel
theorem dX12_readPane_59 : decode cX12_readPane 59 = .ok (.getfield 24, 3) := by decide +kernel
theorem dX12_readPane_62 : decode cX12_readPane 62 = .ok (.aload_n 0, 1) := by decide +kernel
theorem dX12_readPane_63 : decode cX12_readPane 63 = .ok (.getfield 156, 3) := by decide +kernel
theorem dX12_readPane_66 : decode cX12_readPane 66 = .ok (.iaload, 1) := by decide +kernel
theorem dX12_readPane_67 : decode cX12_readPane 67 = .ok (.iconst 2, 1) := by decide +kernel
theorem dX12_readPane_68 : decode cX12_readPane 68 = .ok (.if_icmp .ne 57, 3) := by decide +kernel
theorem dX12_readPane_71 : decode cX12_readPane 71 = .ok (.aload_n 0, 1) := by decide +kernel
theorem dX12_readPane_72 : decode cX12_readPane 72 = .ok (.iconst 0, 1) := by decide +kernel
theorem dX12_readPane_73 : decode cX12_readPane 73 = .ok (.bipush 9, 2) := by decide +kernel
theorem dX12_readPane_75 : decode cX12_readPane 75 = .ok (.invokevirtual 177, 3) := by decide +kernel
theorem dX12_readPane_78 : decode cX12_readPane 78 = .ok (.istore 5, 2) := by decide +kernel
theorem dX12_readPane_80 : decode cX12_readPane 80 = .ok (.aload_n 0, 1) := by decide +kernel
theorem dX12_readPane_81 : decode cX12_readPane 81 = .ok (.getfield 159, 3) := by decide +kernel
theorem dX12_readPane_84 : decode cX12_readPane 84 = .ok (.ifCond .ne 29, 3) := by decide +kernel
theorem dX12_readPane_87 : decode cX12_readPane 87 = .ok (.iload 4, 2) := by decide +kernel
theorem dX12_readPane_89 : decode cX12_readPane 89 = .ok (.iload 5, 2) := by decide +kernel
theorem dX12_readPane_91 : decode cX12_readPane 91 = .ok (.ishr, 1) := by decide +kernel
theorem dX12_readPane_92 : decode cX12_readPane 92 = .ok (.iconst 1, 1) := by decide +kernel
theorem dX12_readPane_93 : decode cX12_readPane 93 = .ok (.iand, 1) := by decide +kernel
theorem dX12_readPane_94 : decode cX12_readPane 94 = .ok (.iconst 1, 1) := by decide +kernel
theorem dX12_readPane_95 : decode cX12_readPane 95 = .ok (.if_icmp .ne 18, 3) := by decide +kernel
theorem dX12_readPane_98 : decode cX12_readPane 98 = .ok (.aload_n 0, 1) := by decide +kernel
theorem dX12_readPane_99 : decode cX12_readPane 99 = .ok (.dup, 1) := by decide +kernel
theorem dX12_readPane_100 : decode cX12_readPane 100 = .ok (.getfield 156, 3) := by decide +kernel
theorem dX12_readPane_103 : decode cX12_readPane 103 = .ok (.iconst 1, 1) := by decide +kernel
theorem dX12_readPane_104 : decode cX12_readPane 104 = .ok (.isub, 1) := by decide +kernel
theorem dX12_readPane_105 : decode cX12_readPane 105 = .ok (.putfield 156, 3) := by decide +kernel
theorem dX12_readPane_108 : decode cX12_readPane 108 = .ok (.aload_n 0, 1) := by decide +kernel
theorem dX12_readPane_109 : decode cX12_readPane 109 = .ok (.iconst 3, 1) := by decide +kernel
theorem dX12_readPane_110 : decode cX12_readPane 110 = .ok (.invokevirtual 165, 3) := by decide +kernel
theorem dX12_readPane_113 : decode cX12_readPane 113 = .ok (.iload 4, 2) := by decide +kernel
theorem dX12_readPane_115 : decode cX12_readPane 115 = .ok (.iconst 1, 1) := by decide +kernel
theorem dX12_readPane_116 : decode cX12_readPane 116 = .ok (.iload 5, 2) := by decide +kernel
theorem dX12_readPane_118 : decode cX12_readPane 118 = .ok (.ishl, 1) := by decide +kernel
theorem dX12_readPane_119 : decode cX12_readPane 119 = .ok (.ior, 1) := by decide +kernel
theorem dX12_readPane_120 : decode cX12_readPane 120 = .ok (.istore 4, 2) := by decide +kernel
theorem dX12_readPane_122 : decode cX12_readPane 122 = .ok (.goto (-76), 3) := by decide +kernel
theorem dX12_readPane_125 : decode cX12_readPane 125 = .ok (.aload_n 0, 1) := by decide +kernel
theorem dX12_readPane_126 : decode cX12_readPane 126 = .ok (.getfield 159, 3) := by decide +kernel
theorem dX12_readPane_129 : decode cX12_readPane 129 = .ok (.ifCond .ne 29, 3) := by decide +kernel
theorem dX12_readPane_132 : decode cX12_readPane 132 = .ok (.aload_n 0, 1) := by decide +kernel
theorem dX12_readPane_133 : decode cX12_readPane 133 = .ok (.getfield 89, 3) := by decide +kernel
theorem dX12_readPane_136 : decode cX12_readPane 136 = .ok (.iload_n 1, 1) := by decide +kernel
theorem dX12_readPane_137 : decode cX12_readPane 137 = .ok (.iload_n 2, 1) := by decide +kernel
theorem dX12_readPane_138 : decode cX12_readPane 138 = .ok (.iastore, 1) := by decide +kernel
theorem dX12_readPane_139 : decode cX12_readPane 139 = .ok (.aload_n 0, 1) := by decide +kernel
theorem dX12_readPane_140 : decode cX12_readPane 140 = .ok (.getfield 89, 3) := by decide +kernel
theorem dX12_readPane_143 : decode cX12_readPane 143 = .ok (.iload_n 1, 1) := by decide +kernel
theorem dX12_readPane_144 : decode cX12_readPane 144 = .ok (.iconst 1, 1) := by decide +kernel
theorem dX12_readPane_145 : decode cX12_readPane 145 = .ok (.iadd, 1) := by decide +kernel
theorem dX12_readPane_146 : decode cX12_readPane 146 = .ok (.iload_n 3, 1) := by decide +kernel
theorem dX12_readPane_147 : decode cX12_readPane 147 = .ok (.iastore, 1) := by decide +kernel
theorem dX12_readPane_148 : decode cX12_readPane 148 = .ok (.aload_n 0, 1) := by decide +kernel
theorem dX12_readPane_149 : decode cX12_readPane 149 = .ok (.getfield 89, 3) := by decide +kernel
theorem dX12_readPane_152 : decode cX12_readPane 152 = .ok (.iload_n 1, 1) := by decide +kernel
theorem dX12_readPane_153 : decode cX12_readPane 153 = .ok (.iconst 2, 1) := by decide +kernel
theorem dX12_readPane_154 : decode cX12_readPane 154 = .ok (.iadd, 1) := by decide +kernel
theorem dX12_readPane_155 : decode cX12_readPane 155 = .ok (.iload 4, 2) := by decide +kernel
theorem dX12_readPane_157 : decode cX12_readPane 157 = .ok (.iastore, 1) := by decide +kernel
theorem dX12_readPane_158 : decode cX12_readPane 158 = .ok (.return_, 1) := by decide +kernel
theorem dX12_readOnce_0 : decode cX12_readOnce 0 = .ok (.aload_n 0, 1) := by decide +kernel
theorem dX12_readOnce_1 : decode cX12_readOnce 1 = .ok (.bipush 7, 2) := by decide +kernel
theorem dX12_readOnce_3 : decode cX12_readOnce 3 = .ok (.iconst 2, 1) := by decide +kernel
theorem dX12_readOnce_4 : decode cX12_readOnce 4 = .ok (.invokevirtual 181, 3) := by decide +kernel
theorem dX12_readOnce_7 : decode cX12_readOnce 7 = .ok (.istore_n 1, 1) := by decide +kernel
theorem dX12_readOnce_8 : decode cX12_readOnce 8 = .ok (.iload_n 1, 1) := by decide +kernel
theorem dX12_readOnce_9 : decode cX12_readOnce 9 = .ok (.ifCond .ge 11, 3) := by decide +kernel
theorem dX12_readOnce_12 : decode cX12_readOnce 12 = .ok (.aload_n 0, 1) := by decide +kernel
theorem dX12_readOnce_13 : decode cX12_readOnce 13 = .ok (.iconst 1, 1) := by decide +kernel
theorem dX12_readOnce_14 : decode cX12_readOnce 14 = .ok (.invokevirtual 165, 3) := by decide +kernel
theorem dX12_readOnce_17 : decode cX12_readOnce 17 = .ok (.goto 20, 3) := by decide +kernel
theorem dX12_readOnce_20 : decode cX12_readOnce 20 = .ok (.aload_n 0, 1) := by decide +kernel
theorem dX12_readOnce_21 : decode cX12_readOnce 21 = .ok (.getfield 208, 3) := by decide +kernel
theorem dX12_readOnce_24 : decode cX12_readOnce 24 = .ok (.iload_n 1, 1) := by decide +kernel
theorem dX12_readOnce_25 : decode cX12_readOnce 25 = .ok (.ishr, 1) := by decide +kernel
theorem dX12_readOnce_26 : decode cX12_readOnce 26 = .ok (.iconst 1, 1) := by decide +kernel
theorem dX12_readOnce_27 : decode cX12_readOnce 27 = .ok (.iand, 1) := by decide +kernel
theorem dX12_readOnce_28 : decode cX12_readOnce 28 = .ok (.iconst 1, 1) := by decide +kernel
theorem dX12_readOnce_29 : decode cX12_readOnce 29 = .ok (.if_icmp .ne 8, 3) := by decide +kernel
theorem dX12_readOnce_32 : decode cX12_readOnce 32 = .ok (.aload_n 0, 1) := by decide +kernel
theorem dX12_readOnce_33 : decode cX12_readOnce 33 = .ok (.iconst 3, 1) := by decide +kernel
theorem dX12_readOnce_34 : decode cX12_readOnce 34 = .ok (.invokevirtual 165, 3) := by decide +kernel
theorem dX12_readOnce_37 : decode cX12_readOnce 37 = .ok (.aload_n 0, 1) := by decide +kernel
theorem dX12_readOnce_38 : decode cX12_readOnce 38 = .ok (.getfield 159, 3) := by decide +kernel
theorem dX12_readOnce_41 : decode cX12_readOnce 41 = .ok (.ifCond .le 4, 3) := by decide +kernel
theorem dX12_readOnce_44 : decode cX12_readOnce 44 = .ok (.return_, 1) := by decide +kernel
theorem dX12_readOnce_45 : decode cX12_readOnce 45 = .ok (.aload_n 0, 1) := by decide +kernel
theorem dX12_readOnce_46 : decode cX12_readOnce 46 = .ok (.dup, 1) := by decide +kernel
theorem dX12_readOnce_47 : decode cX12_readOnce 47 = .ok (.getfield 208, 3) := by decide +kernel
theorem dX12_readOnce_50 : decode cX12_readOnce 50 = .ok (.iconst 1, 1) := by decide +kernel
theorem dX12_readOnce_51 : decode cX12_readOnce 51 = .ok (.iload_n 1, 1) := by decide +kernel
theorem dX12_readOnce_52 : decode cX12_readOnce 52 = .ok (.ishl, 1) := by decide +kernel
theorem dX12_readOnce_53 : decode cX12_readOnce 53 = .ok (.ior, 1) := by decide +kernel
theorem dX12_readOnce_54 : decode cX12_readOnce 54 = .ok (.putfield 208, 3) := by decide +kernel
theorem dX12_readOnce_57 : decode cX12_readOnce 57 = .ok (.aload_n 0, 1) := by decide +kernel
theorem dX12_readOnce_58 : decode cX12_readOnce 58 = .ok (.dup, 1) := by decide +kernel
theorem dX12_readOnce_59 : decode cX12_readOnce 59 = .ok (.getfield 156, 3) := by decide +kernel
theorem dX12_readOnce_62 : decode cX12_readOnce 62 = .ok (.iconst 1, 1) := by decide +kernel
theorem dX12_readOnce_63 : decode cX12_readOnce 63 = .ok (.iadd, 1) := by decide +kernel
theorem dX12_readOnce_64 : decode cX12_readOnce 64 = .ok (.putfield 156, 3) := by decide +kernel
theorem dX12_readOnce_67 : decode cX12_readOnce 67 = .ok (.iload_n 1, 1) := by decide +kernel
theorem dX12_readOnce_68 : decode cX12_readOnce 68 = .ok (.ifCond .ne 10, 3) := by decide +kernel
theorem dX12_readOnce_71 : decode cX12_readOnce 71 = .ok (.aload_n 0, 1) := by decide +kernel
theorem dX12_readOnce_72 : decode cX12_readOnce 72 = .ok (.invokevirtual 234, 3) := by decide +kernel
theorem dX12_readOnce_75 : decode cX12_readOnce 75 = .ok (.goto 25, 3) := by decide +kernel
theorem dX12_readOnce_78 : decode cX12_readOnce 78 = .ok (.aload_n 0, 1) := by decide +kernel
theorem dX12_readOnce_79 : decode cX12_readOnce 79 = .ok (.getfield 89, 3) := by decide +kernel
theorem dX12_readOnce_82 : decode cX12_readOnce 82 = .ok (.bipush 64, 2) := by decide +kernel
theorem dX12_readOnce_84 : decode cX12_readOnce 84 = .ok (.aload_n 0, 1) := by decide +kernel
theorem dX12_readOnce_85 : decode cX12_readOnce 85 = .ok (.getfield 205, 3) := by decide +kernel
theorem dX12_readOnce_88 : decode cX12_readOnce 88 = .ok (.iastore, 1) := by decide +kernel
theorem dX12_readOnce_89 : decode cX12_readOnce 89 = .ok (.aload_n 0, 1) := by decide +kernel
theorem dX12_readOnce_90 : decode cX12_readOnce 90 = .ok (.iconst 0, 1) := by decide +kernel
theorem dX12_readOnce_91 : decode cX12_readOnce 91 = .ok (.invokevirtual 237, 3) := by decide +kernel
theorem dX12_readOnce_94 : decode cX12_readOnce 94 = .ok (.aload_n 0, 1) := by decide +kernel
theorem dX12_readOnce_95 : decode cX12_readOnce 95 = .ok (.iconst 0, 1) := by decide +kernel
theorem dX12_readOnce_96 : decode cX12_readOnce 96 = .ok (.iconst 0, 1) := by decide +kernel
theorem dX12_readOnce_97 : decode cX12_readOnce 97 = .ok (.invokevirtual 240, 3) := by decide +kernel
theorem dX12_readOnce_100 : decode cX12_readOnce 100 = .ok (.return_, 1) := by decide +kernel
theorem dX12_readLight_0 : decode cX12_readLight 0 = .ok (.iconst 0, 1) := by decide +kernel
theorem dX12_readLight_1 : decode cX12_readLight 1 = .ok (.istore_n 1, 1) := by decide +kernel
theorem dX12_readLight_2 : decode cX12_readLight 2 = .ok (.aload_n 0, 1) := by decide +kernel
theorem dX12_readLight_3 : decode cX12_readLight 3 = .ok (.getfield 159, 3) := by decide +kernel
theorem dX12_readLight_6 : decode cX12_readLight 6 = .ok (.ifCond .ne 81, 3) := by decide +kernel
theorem dX12_readLight_9 : decode cX12_readLight 9 = .ok (.iload_n 1, 1) := by decide +kernel
theorem dX12_readLight_10 : decode cX12_readLight 10 = .ok (.ifCond .eq 16, 3) := by decide +kernel
theorem dX12_readLight_13 : decode cX12_readLight 13 = .ok (.aload_n 0, 1) := by decide +kernel
theorem dX12_readLight_14 : decode cX12_readLight 14 = .ok (.getfield 24, 3) := by decide +kernel
theorem dX12_readLight_17 : decode cX12_readLight 17 = .ok (.aload_n 0, 1) := by decide +kernel
theorem dX12_readLight_18 : decode cX12_readLight 18 = .ok (.getfield 156, 3) := by decide +kernel
theorem dX12_readLight_21 : decode cX12_readLight 21 = .ok (.iaload, 1) := by decide +kernel
theorem dX12_readLight_22 : decode cX12_readLight 22 = .ok (.iconst 2, 1) := by decide +kernel
theorem dX12_readLight_23 : decode cX12_readLight 23 = .ok (.if_icmp .ne 64, 3) := by decide +kernel
theorem dX12_readLight_26 : decode cX12_readLight 26 = .ok (.aload_n 0, 1) := by decide +kernel
theorem dX12_readLight_27 : decode cX12_readLight 27 = .ok (.iconst 0, 1) := by decide +kernel
theorem dX12_readLight_28 : decode cX12_readLight 28 = .ok (.iconst 1, 1) := by decide +kernel
theorem dX12_readLight_29 : decode cX12_readLight 29 = .ok (.invokevirtual 177, 3) := by decide +kernel
theorem dX12_readLight_32 : decode cX12_readLight 32 = .ok (.istore_n 2, 1) := by decide +kernel
theorem dX12_readLight_33 : decode cX12_readLight 33 = .ok (.aload_n 0, 1) := by decide +kernel
theorem dX12_readLight_34 : decode cX12_readLight 34 = .ok (.getfield 159, 3) := by decide +kernel
theorem dX12_readLight_37 : decode cX12_readLight 37 = .ok (.ifCond .ne 27, 3) := by decide +kernel
theorem dX12_readLight_40 : decode cX12_readLight 40 = .ok (.iload_n 1, 1) := by decide +kernel
theorem dX12_readLight_41 : decode cX12_readLight 41 = .ok (.bipush 12, 2) := by decide +kernel
theorem dX12_readLight_43 : decode cX12_readLight 43 = .ok (.if_icmp .ne 21, 3) := by decide +kernel
theorem dX12_readLight_46 : decode cX12_readLight 46 = .ok (.aload_n 0, 1) := by decide +kernel
theorem dX12_readLight_47 : decode cX12_readLight 47 = .ok (.dup, 1) := by decide +kernel
theorem dX12_readLight_48 : decode cX12_readLight 48 = .ok (.getfield 156, 3) := by decide +kernel
theorem dX12_readLight_51 : decode cX12_readLight 51 = .ok (.iconst 1, 1) := by decide +kernel
theorem dX12_readLight_52 : decode cX12_readLight 52 = .ok (.isub, 1) := by decide +kernel
theorem dX12_readLight_53 : decode cX12_readLight 53 = .ok (.putfield 156, 3) := by decide +kernel
theorem dX12_readLight_56 : decode cX12_readLight 56 = .ok (.aload_n 0, 1) := by decide +kernel
theorem dX12_readLight_57 : decode cX12_readLight 57 = .ok (.iconst 5, 1) := by decide +kernel
theorem dX12_readLight_58 : decode cX12_readLight 58 = .ok (.invokevirtual 165, 3) := by decide +kernel
theorem dX12_readLight_61 : decode cX12_readLight 61 = .ok (.goto 23, 3) := by decide +kernel
theorem dX12_readLight_64 : decode cX12_readLight 64 = .ok (.aload_n 0, 1) := by decide +kernel
theorem dX12_readLight_65 : decode cX12_readLight 65 = .ok (.getfield 159, 3) := by decide +kernel
theorem dX12_readLight_68 : decode cX12_readLight 68 = .ok (.ifCond .ne 16, 3) := by decide +kernel
theorem dX12_readLight_71 : decode cX12_readLight 71 = .ok (.aload_n 0, 1) := by decide +kernel
theorem dX12_readLight_72 : decode cX12_readLight 72 = .ok (.getfield 89, 3) := by decide +kernel
theorem dX12_readLight_75 : decode cX12_readLight 75 = .ok (.bipush 93, 2) := by decide +kernel
theorem dX12_readLight_77 : decode cX12_readLight 77 = .ok (.iload_n 1, 1) := by decide +kernel
theorem dX12_readLight_78 : decode cX12_readLight 78 = .ok (.iadd, 1) := by decide +kernel
theorem dX12_readLight_79 : decode cX12_readLight 79 = .ok (.iload_n 2, 1) := by decide +kernel
theorem dX12_readLight_80 : decode cX12_readLight 80 = .ok (.iastore, 1) := by decide +kernel
theorem dX12_readLight_81 : decode cX12_readLight 81 = .ok (.iinc 1 1, 3) := by decide +kernel
theorem dX12_readLight_84 : decode cX12_readLight 84 = .ok (.goto (-82), 3) := by decide +kernel
theorem dX12_readLight_87 : decode cX12_readLight 87 = .ok (.aload_n 0, 1) := by decide +kernel
theorem dX12_readLight_88 : decode cX12_readLight 88 = .ok (.getfield 89, 3) := by decide +kernel
theorem dX12_readLight_91 : decode cX12_readLight 91 = .ok (.bipush 63, 2) := by decide +kernel
theorem dX12_readLight_93 : decode cX12_readLight 93 = .ok (.iload_n 1, 1) := by decide +kernel
theorem dX12_readLight_94 : decode cX12_readLight 94 = .ok (.iastore, 1) := by decide +kernel
theorem dX12_readLight_95 : decode cX12_readLight 95 = .ok (.return_, 1) := by decide +kernel
theorem dX12_day_0 : decode cX12_day 0 = .ok (.aload_n 0, 1) := by decide +kernel
theorem dX12_day_1 : decode cX12_day 1 = .ok (.iconst 0, 1) := by decide +kernel
theorem dX12_day_2 : decode cX12_day 2 = .ok (.putfield 1, 3) := by decide +kernel
theorem dX12_day_5 : decode cX12_day 5 = .ok (.aload_n 0, 1) := by decide +kernel
theorem dX12_day_6 : decode cX12_day 6 = .ok (.invokevirtual 202, 3) := by decide +kernel
theorem dX12_day_9 : decode cX12_day 9 = .ok (.iconst 0, 1) := by decide +kernel
theorem dX12_day_10 : decode cX12_day 10 = .ok (.istore_n 1, 1) := by decide +kernel
theorem dX12_day_11 : decode cX12_day 11 = .ok (.aload_n 0, 1) := by decide +kernel
theorem dX12_day_12 : decode cX12_day 12 = .ok (.getfield 159, 3) := by decide +kernel
theorem dX12_day_15 : decode cX12_day 15 = .ok (.ifCond .ne 159, 3) := by decide +kernel
theorem dX12_day_18 : decode cX12_day 18 = .ok (.aload_n 0, 1) := by decide +kernel
theorem dX12_day_19 : decode cX12_day 19 = .ok (.getfield 24, 3) := by decide +kernel
theorem dX12_day_22 : decode cX12_day 22 = .ok (.aload_n 0, 1) := by decide +kernel
theorem dX12_day_23 : decode cX12_day 23 = .ok (.getfield 156, 3) := by decide +kernel
theorem dX12_day_26 : decode cX12_day 26 = .ok (.iaload, 1) := by decide +kernel
theorem dX12_day_27 : decode cX12_day 27 = .ok (.ifCond .eq 147, 3) := by decide +kernel
theorem dX12_day_30 : decode cX12_day 30 = .ok (.aload_n 0, 1) := by decide +kernel
theorem dX12_day_31 : decode cX12_day 31 = .ok (.bipush 9, 2) := by decide +kernel
theorem dX12_day_33 : decode cX12_day 33 = .ok (.bipush 6, 2) := by decide +kernel
theorem dX12_day_35 : decode cX12_day 35 = .ok (.invokevirtual 181, 3) := by decide +kernel
theorem dX12_day_38 : decode cX12_day 38 = .ok (.istore_n 2, 1) := by decide +kernel
theorem dX12_day_39 : decode cX12_day 39 = .ok (.iload_n 2, 1) := by decide +kernel
theorem dX12_day_40 : decode cX12_day 40 = .ok (.ifCond .ge 11, 3) := by decide +kernel
theorem dX12_day_43 : decode cX12_day 43 = .ok (.aload_n 0, 1) := by decide +kernel
theorem dX12_day_44 : decode cX12_day 44 = .ok (.iconst 1, 1) := by decide +kernel
theorem dX12_day_45 : decode cX12_day 45 = .ok (.invokevirtual 165, 3) := by decide +kernel
theorem dX12_day_48 : decode cX12_day 48 = .ok (.goto 117, 3) := by decide +kernel
theorem dX12_day_51 : decode cX12_day 51 = .ok (.iload_n 1, 1) := by decide +kernel
theorem dX12_day_52 : decode cX12_day 52 = .ok (.bipush 40, 2) := by decide +kernel
theorem dX12_day_54 : decode cX12_day 54 = .ok (.if_icmp .ne 11, 3) := by decide +kernel
theorem dX12_day_57 : decode cX12_day 57 = .ok (.aload_n 0, 1) := by decide +kernel
theorem dX12_day_58 : decode cX12_day 58 = .ok (.iconst 5, 1) := by decide +kernel
theorem dX12_day_59 : decode cX12_day 59 = .ok (.invokevirtual 165, 3) := by decide +kernel
theorem dX12_day_62 : decode cX12_day 62 = .ok (.goto 103, 3) := by decide +kernel
theorem dX12_day_65 : decode cX12_day 65 = .ok (.aload_n 0, 1) := by decide +kernel
theorem dX12_day_66 : decode cX12_day 66 = .ok (.dup, 1) := by decide +kernel
theorem dX12_day_67 : decode cX12_day 67 = .ok (.getfield 156, 3) := by decide +kernel
theorem dX12_day_70 : decode cX12_day 70 = .ok (.iconst 1, 1) := by decide +kernel
theorem dX12_day_71 : decode cX12_day 71 = .ok (.iadd, 1) := by decide +kernel
theorem dX12_day_72 : decode cX12_day 72 = .ok (.putfield 156, 3) := by decide +kernel
theorem dX12_day_75 : decode cX12_day 75 = .ok (.aload_n 0, 1) := by decide +kernel
theorem dX12_day_76 : decode cX12_day 76 = .ok (.getfield 110, 3) := by decide +kernel
theorem dX12_day_79 : decode cX12_day 79 = .ok (.bipush 125, 2) := by decide +kernel
theorem dX12_day_81 : decode cX12_day 81 = .ok (.iconst 3, 1) := by decide +kernel
theorem dX12_day_82 : decode cX12_day 82 = .ok (.iload_n 1, 1) := by decide +kernel
theorem dX12_day_83 : decode cX12_day 83 = .ok (.imul, 1) := by decide +kernel
theorem dX12_day_84 : decode cX12_day 84 = .ok (.iadd, 1) := by decide +kernel
theorem dX12_day_85 : decode cX12_day 85 = .ok (.iload_n 2, 1) := by decide +kernel
theorem dX12_day_86 : decode cX12_day 86 = .ok (.iastore, 1) := by decide +kernel
theorem dX12_day_87 : decode cX12_day 87 = .ok (.aload_n 0, 1) := by decide +kernel
theorem dX12_day_88 : decode cX12_day 88 = .ok (.getfield 110, 3) := by decide +kernel
theorem dX12_day_91 : decode cX12_day 91 = .ok (.bipush 126, 2) := by decide +kernel
theorem dX12_day_93 : decode cX12_day 93 = .ok (.iconst 3, 1) := by decide +kernel
theorem dX12_day_94 : decode cX12_day 94 = .ok (.iload_n 1, 1) := by decide +kernel
theorem dX12_day_95 : decode cX12_day 95 = .ok (.imul, 1) := by decide +kernel
theorem dX12_day_96 : decode cX12_day 96 = .ok (.iadd, 1) := by decide +kernel
theorem dX12_day_97 : decode cX12_day 97 = .ok (.iload_n 2, 1) := by decide +kernel
theorem dX12_day_98 : decode cX12_day 98 = .ok (.iconst 5, 1) := by decide +kernel
theorem dX12_day_99 : decode cX12_day 99 = .ok (.if_icmp .ne 7, 3) := by decide +kernel
theorem dX12_day_102 : decode cX12_day 102 = .ok (.iconst 0, 1) := by decide +kernel
theorem dX12_day_103 : decode cX12_day 103 = .ok (.goto 18, 3) := by decide +kernel
theorem dX12_day_106 : decode cX12_day 106 = .ok (.aload_n 0, 1) := by decide +kernel
theorem dX12_day_107 : decode cX12_day 107 = .ok (.iload_n 2, 1) := by decide +kernel
theorem dX12_day_108 : decode cX12_day 108 = .ok (.iconst 2, 1) := by decide +kernel
theorem dX12_day_109 : decode cX12_day 109 = .ok (.if_icmp .ge 8, 3) := by decide +kernel
theorem dX12_day_112 : decode cX12_day 112 = .ok (.bipush 20, 2) := by decide +kernel
theorem dX12_day_114 : decode cX12_day 114 = .ok (.goto 4, 3) := by decide +kernel
theorem dX12_day_117 : decode cX12_day 117 = .ok (.iconst 0, 1) := by decide +kernel
theorem dX12_day_118 : decode cX12_day 118 = .ok (.invokevirtual 244, 3) := by decide +kernel
theorem dX12_day_121 : decode cX12_day 121 = .ok (.iastore, 1) := by decide +kernel
theorem dX12_day_122 : decode cX12_day 122 = .ok (.aload_n 0, 1) := by decide +kernel
theorem dX12_day_123 : decode cX12_day 123 = .ok (.getfield 110, 3) := by decide +kernel
theorem dX12_day_126 : decode cX12_day 126 = .ok (.bipush 127, 2) := by decide +kernel
theorem dX12_day_128 : decode cX12_day 128 = .ok (.iconst 3, 1) := by decide +kernel
theorem dX12_day_129 : decode cX12_day 129 = .ok (.iload_n 1, 1) := by decide +kernel
theorem dX12_day_130 : decode cX12_day 130 = .ok (.imul, 1) := by decide +kernel
theorem dX12_day_131 : decode cX12_day 131 = .ok (.iadd, 1) := by decide +kernel
theorem dX12_day_132 : decode cX12_day 132 = .ok (.iload_n 2, 1) := by decide +kernel
theorem dX12_day_133 : decode cX12_day 133 = .ok (.ifCond .ne 13, 3) := by decide +kernel
theorem dX12_day_136 : decode cX12_day 136 = .ok (.aload_n 0, 1) := by decide +kernel
theorem dX12_day_137 : decode cX12_day 137 = .ok (.iconst 0, 1) := by decide +kernel
theorem dX12_day_138 : decode cX12_day 138 = .ok (.bipush 9, 2) := by decide +kernel
theorem dX12_day_140 : decode cX12_day 140 = .ok (.invokevirtual 177, 3) := by decide +kernel
theorem dX12_day_143 : decode cX12_day 143 = .ok (.goto 18, 3) := by decide +kernel
theorem dX12_day_146 : decode cX12_day 146 = .ok (.iload_n 2, 1) := by decide +kernel
theorem dX12_day_147 : decode cX12_day 147 = .ok (.iconst 1, 1) := by decide +kernel
theorem dX12_day_148 : decode cX12_day 148 = .ok (.if_icmp .ne 12, 3) := by decide +kernel
theorem dX12_day_151 : decode cX12_day 151 = .ok (.aload_n 0, 1) := by decide +kernel
theorem dX12_day_152 : decode cX12_day 152 = .ok (.bipush 40, 2) := by decide +kernel
theorem dX12_day_154 : decode cX12_day 154 = .ok (.invokevirtual 244, 3) := by decide +kernel
theorem dX12_day_157 : decode cX12_day 157 = .ok (.goto 4, 3) := by decide +kernel
theorem dX12_day_160 : decode cX12_day 160 = .ok (.iconst 0, 1) := by decide +kernel
theorem dX12_day_161 : decode cX12_day 161 = .ok (.iastore, 1) := by decide +kernel
theorem dX12_day_162 : decode cX12_day 162 = .ok (.iinc 1 1, 3) := by decide +kernel
theorem dX12_day_165 : decode cX12_day 165 = .ok (.aload_n 0, 1) := by decide +kernel
theorem dX12_day_166 : decode cX12_day 166 = .ok (.bipush 59, 2) := by decide +kernel
theorem dX12_day_168 : decode cX12_day 168 = .ok (.invokevirtual 214, 3) := by decide +kernel
theorem dX12_day_171 : decode cX12_day 171 = .ok (.goto (-160), 3) := by decide +kernel
theorem dX12_day_174 : decode cX12_day 174 = .ok (.aload_n 0, 1) := by decide +kernel
theorem dX12_day_175 : decode cX12_day 175 = .ok (.getfield 159, 3) := by decide +kernel
theorem dX12_day_178 : decode cX12_day 178 = .ok (.ifCond .le 8, 3) := by decide +kernel
theorem dX12_day_181 : decode cX12_day 181 = .ok (.aload_n 0, 1) := by decide +kernel
theorem dX12_day_182 : decode cX12_day 182 = .ok (.getfield 159, 3) := by decide +kernel
theorem dX12_day_185 : decode cX12_day 185 = .ok (.ireturn, 1) := by decide +kernel
theorem dX12_day_186 : decode cX12_day 186 = .ok (.aload_n 0, 1) := by decide +kernel
theorem dX12_day_187 : decode cX12_day 187 = .ok (.getfield 110, 3) := by decide +kernel
theorem dX12_day_190 : decode cX12_day 190 = .ok (.iconst 0, 1) := by decide +kernel
theorem dX12_day_191 : decode cX12_day 191 = .ok (.iload_n 1, 1) := by decide +kernel
theorem dX12_day_192 : decode cX12_day 192 = .ok (.iastore, 1) := by decide +kernel
theorem dX12_day_193 : decode cX12_day 193 = .ok (.iconst 0, 1) := by decide +kernel
theorem dX12_day_194 : decode cX12_day 194 = .ok (.istore_n 2, 1) := by decide +kernel
theorem dX12_day_195 : decode cX12_day 195 = .ok (.iload_n 2, 1) := by decide +kernel
theorem dX12_day_196 : decode cX12_day 196 = .ok (.iconst 3, 1) := by decide +kernel
theorem dX12_day_197 : decode cX12_day 197 = .ok (.iload_n 1, 1) := by decide +kernel
theorem dX12_day_198 : decode cX12_day 198 = .ok (.imul, 1) := by decide +kernel
theorem dX12_day_199 : decode cX12_day 199 = .ok (.if_icmp .ge 26, 3) := by decide +kernel
theorem dX12_day_202 : decode cX12_day 202 = .ok (.aload_n 0, 1) := by decide +kernel
theorem dX12_day_203 : decode cX12_day 203 = .ok (.getfield 110, 3) := by decide +kernel
theorem dX12_day_206 : decode cX12_day 206 = .ok (.iconst 1, 1) := by decide +kernel
theorem dX12_day_207 : decode cX12_day 207 = .ok (.iload_n 2, 1) := by decide +kernel
theorem dX12_day_208 : decode cX12_day 208 = .ok (.iadd, 1) := by decide +kernel
theorem dX12_day_209 : decode cX12_day 209 = .ok (.aload_n 0, 1) := by decide +kernel
theorem dX12_day_210 : decode cX12_day 210 = .ok (.getfield 110, 3) := by decide +kernel
theorem dX12_day_213 : decode cX12_day 213 = .ok (.bipush 125, 2) := by decide +kernel
theorem dX12_day_215 : decode cX12_day 215 = .ok (.iload_n 2, 1) := by decide +kernel
theorem dX12_day_216 : decode cX12_day 216 = .ok (.iadd, 1) := by decide +kernel
theorem dX12_day_217 : decode cX12_day 217 = .ok (.iaload, 1) := by decide +kernel
theorem dX12_day_218 : decode cX12_day 218 = .ok (.iastore, 1) := by decide +kernel
theorem dX12_day_219 : decode cX12_day 219 = .ok (.iinc 2 1, 3) := by decide +kernel
theorem dX12_day_222 : decode cX12_day 222 = .ok (.goto (-27), 3) := by decide +kernel
theorem dX12_day_225 : decode cX12_day 225 = .ok (.iconst 0, 1) := by decide +kernel
theorem dX12_day_226 : decode cX12_day 226 = .ok (.ireturn, 1) := by decide +kernel
theorem dX12_emit_0 : decode cX12_emit 0 = .ok (.aload_n 0, 1) := by decide +kernel
theorem dX12_emit_1 : decode cX12_emit 1 = .ok (.getfield 92, 3) := by decide +kernel
theorem dX12_emit_4 : decode cX12_emit 4 = .ok (.sipush 1100, 3) := by decide +kernel
theorem dX12_emit_7 : decode cX12_emit 7 = .ok (.aload_n 0, 1) := by decide +kernel
theorem dX12_emit_8 : decode cX12_emit 8 = .ok (.getfield 205, 3) := by decide +kernel
theorem dX12_emit_11 : decode cX12_emit 11 = .ok (.iadd, 1) := by decide +kernel
theorem dX12_emit_12 : decode cX12_emit 12 = .ok (.iload_n 1, 1) := by decide +kernel
theorem dX12_emit_13 : decode cX12_emit 13 = .ok (.iastore, 1) := by decide +kernel
theorem dX12_emit_14 : decode cX12_emit 14 = .ok (.aload_n 0, 1) := by decide +kernel
theorem dX12_emit_15 : decode cX12_emit 15 = .ok (.getfield 95, 3) := by decide +kernel
theorem dX12_emit_18 : decode cX12_emit 18 = .ok (.sipush 1100, 3) := by decide +kernel
theorem dX12_emit_21 : decode cX12_emit 21 = .ok (.aload_n 0, 1) := by decide +kernel
theorem dX12_emit_22 : decode cX12_emit 22 = .ok (.getfield 205, 3) := by decide +kernel
theorem dX12_emit_25 : decode cX12_emit 25 = .ok (.iadd, 1) := by decide +kernel
theorem dX12_emit_26 : decode cX12_emit 26 = .ok (.iload_n 2, 1) := by decide +kernel
theorem dX12_emit_27 : decode cX12_emit 27 = .ok (.iastore, 1) := by decide +kernel
theorem dX12_emit_28 : decode cX12_emit 28 = .ok (.aload_n 0, 1) := by decide +kernel
theorem dX12_emit_29 : decode cX12_emit 29 = .ok (.dup, 1) := by decide +kernel
theorem dX12_emit_30 : decode cX12_emit 30 = .ok (.getfield 205, 3) := by decide +kernel
theorem dX12_emit_33 : decode cX12_emit 33 = .ok (.iconst 1, 1) := by decide +kernel
theorem dX12_emit_34 : decode cX12_emit 34 = .ok (.iadd, 1) := by decide +kernel
theorem dX12_emit_35 : decode cX12_emit 35 = .ok (.putfield 205, 3) := by decide +kernel
theorem dX12_emit_38 : decode cX12_emit 38 = .ok (.return_, 1) := by decide +kernel
theorem dX12_whole_0 : decode cX12_whole 0 = .ok (.aload_n 0, 1) := by decide +kernel
theorem dX12_whole_1 : decode cX12_whole 1 = .ok (.iload_n 1, 1) := by decide +kernel
theorem dX12_whole_2 : decode cX12_whole 2 = .ok (.invokevirtual 247, 3) := by decide +kernel
theorem dX12_whole_5 : decode cX12_whole 5 = .ok (.aload_n 0, 1) := by decide +kernel
theorem dX12_whole_6 : decode cX12_whole 6 = .ok (.bipush 20, 2) := by decide +kernel
theorem dX12_whole_8 : decode cX12_whole 8 = .ok (.invokevirtual 168, 3) := by decide +kernel
theorem dX12_whole_11 : decode cX12_whole 11 = .ok (.ifCond .ne 12, 3) := by decide +kernel
theorem dX12_whole_14 : decode cX12_whole 14 = .ok (.aload_n 0, 1) := by decide +kernel
theorem dX12_whole_15 : decode cX12_whole 15 = .ok (.bipush 21, 2) := by decide +kernel
theorem dX12_whole_17 : decode cX12_whole 17 = .ok (.invokevirtual 168, 3) := by decide +kernel
theorem dX12_whole_20 : decode cX12_whole 20 = .ok (.ifCond .eq 44, 3) := by decide +kernel
theorem dX12_whole_23 : decode cX12_whole 23 = .ok (.aload_n 0, 1) := by decide +kernel
theorem dX12_whole_24 : decode cX12_whole 24 = .ok (.bipush 20, 2) := by decide +kernel
theorem dX12_whole_26 : decode cX12_whole 26 = .ok (.invokevirtual 168, 3) := by decide +kernel
theorem dX12_whole_29 : decode cX12_whole 29 = .ok (.istore_n 2, 1) := by decide +kernel
theorem dX12_whole_30 : decode cX12_whole 30 = .ok (.aload_n 0, 1) := by decide +kernel
theorem dX12_whole_31 : decode cX12_whole 31 = .ok (.dup, 1) := by decide +kernel
theorem dX12_whole_32 : decode cX12_whole 32 = .ok (.getfield 156, 3) := by decide +kernel
theorem dX12_whole_35 : decode cX12_whole 35 = .ok (.iconst 1, 1) := by decide +kernel
theorem dX12_whole_36 : decode cX12_whole 36 = .ok (.iadd, 1) := by decide +kernel
theorem dX12_whole_37 : decode cX12_whole 37 = .ok (.putfield 156, 3) := by decide +kernel
theorem dX12_whole_40 : decode cX12_whole 40 = .ok (.aload_n 0, 1) := by decide +kernel
theorem dX12_whole_41 : decode cX12_whole 41 = .ok (.iload_n 1, 1) := by decide +kernel
theorem dX12_whole_42 : decode cX12_whole 42 = .ok (.invokevirtual 247, 3) := by decide +kernel
theorem dX12_whole_45 : decode cX12_whole 45 = .ok (.aload_n 0, 1) := by decide +kernel
theorem dX12_whole_46 : decode cX12_whole 46 = .ok (.iload_n 2, 1) := by decide +kernel
theorem dX12_whole_47 : decode cX12_whole 47 = .ok (.ifCond .eq 8, 3) := by decide +kernel
theorem dX12_whole_50 : decode cX12_whole 50 = .ok (.bipush 9, 2) := by decide +kernel
theorem dX12_whole_52 : decode cX12_whole 52 = .ok (.goto 5, 3) := by decide +kernel
theorem dX12_whole_55 : decode cX12_whole 55 = .ok (.bipush 10, 2) := by decide +kernel
theorem dX12_whole_57 : decode cX12_whole 57 = .ok (.iconst 0, 1) := by decide +kernel
theorem dX12_whole_58 : decode cX12_whole 58 = .ok (.invokevirtual 240, 3) := by decide +kernel
theorem dX12_whole_61 : decode cX12_whole 61 = .ok (.goto (-56), 3) := by decide +kernel
theorem dX12_whole_64 : decode cX12_whole 64 = .ok (.return_, 1) := by decide +kernel
theorem dX12_test_0 : decode cX12_test 0 = .ok (.aload_n 0, 1) := by decide +kernel
theorem dX12_test_1 : decode cX12_test 1 = .ok (.iload_n 1, 1) := by decide +kernel
theorem dX12_test_2 : decode cX12_test 2 = .ok (.invokevirtual 250, 3) := by decide +kernel
theorem dX12_test_5 : decode cX12_test 5 = .ok (.aload_n 0, 1) := by decide +kernel
theorem dX12_test_6 : decode cX12_test 6 = .ok (.bipush 60, 2) := by decide +kernel
theorem dX12_test_8 : decode cX12_test 8 = .ok (.invokevirtual 162, 3) := by decide +kernel
theorem dX12_test_11 : decode cX12_test 11 = .ok (.istore_n 2, 1) := by decide +kernel
theorem dX12_test_12 : decode cX12_test 12 = .ok (.aload_n 0, 1) := by decide +kernel
theorem dX12_test_13 : decode cX12_test 13 = .ok (.bipush 60, 2) := by decide +kernel
theorem dX12_test_15 : decode cX12_test 15 = .ok (.invokevirtual 253, 3) := by decide +kernel
theorem dX12_test_18 : decode cX12_test 18 = .ok (.ifCond .ne 12, 3) := by decide +kernel
theorem dX12_test_21 : decode cX12_test 21 = .ok (.aload_n 0, 1) := by decide +kernel
theorem dX12_test_22 : decode cX12_test 22 = .ok (.bipush 61, 2) := by decide +kernel
theorem dX12_test_24 : decode cX12_test 24 = .ok (.invokevirtual 253, 3) := by decide +kernel
theorem dX12_test_27 : decode cX12_test 27 = .ok (.ifCond .eq 24, 3) := by decide +kernel
theorem dX12_test_30 : decode cX12_test 30 = .ok (.aload_n 0, 1) := by decide +kernel
theorem dX12_test_31 : decode cX12_test 31 = .ok (.iload_n 1, 1) := by decide +kernel
theorem dX12_test_32 : decode cX12_test 32 = .ok (.invokevirtual 250, 3) := by decide +kernel
theorem dX12_test_35 : decode cX12_test 35 = .ok (.aload_n 0, 1) := by decide +kernel
theorem dX12_test_36 : decode cX12_test 36 = .ok (.iload_n 2, 1) := by decide +kernel
theorem dX12_test_37 : decode cX12_test 37 = .ok (.ifCond .eq 8, 3) := by decide +kernel
theorem dX12_test_40 : decode cX12_test 40 = .ok (.bipush 7, 2) := by decide +kernel
theorem dX12_test_42 : decode cX12_test 42 = .ok (.goto 5, 3) := by decide +kernel
theorem dX12_test_45 : decode cX12_test 45 = .ok (.bipush 8, 2) := by decide +kernel
theorem dX12_test_47 : decode cX12_test 47 = .ok (.iconst 0, 1) := by decide +kernel
theorem dX12_test_48 : decode cX12_test 48 = .ok (.invokevirtual 240, 3) := by decide +kernel
theorem dX12_test_51 : decode cX12_test 51 = .ok (.return_, 1) := by decide +kernel
theorem dX12_sums_0 : decode cX12_sums 0 = .ok (.aload_n 0, 1) := by decide +kernel
theorem dX12_sums_1 : decode cX12_sums 1 = .ok (.iload_n 1, 1) := by decide +kernel
theorem dX12_sums_2 : decode cX12_sums 2 = .ok (.invokevirtual 256, 3) := by decide +kernel
theorem dX12_sums_5 : decode cX12_sums 5 = .ok (.aload_n 0, 1) := by decide +kernel
theorem dX12_sums_6 : decode cX12_sums 6 = .ok (.bipush 43, 2) := by decide +kernel
theorem dX12_sums_8 : decode cX12_sums 8 = .ok (.invokevirtual 162, 3) := by decide +kernel
theorem dX12_sums_11 : decode cX12_sums 11 = .ok (.ifCond .ne 12, 3) := by decide +kernel
theorem dX12_sums_14 : decode cX12_sums 14 = .ok (.aload_n 0, 1) := by decide +kernel
theorem dX12_sums_15 : decode cX12_sums 15 = .ok (.bipush 45, 2) := by decide +kernel
theorem dX12_sums_17 : decode cX12_sums 17 = .ok (.invokevirtual 162, 3) := by decide +kernel
theorem dX12_sums_20 : decode cX12_sums 20 = .ok (.ifCond .eq 42, 3) := by decide +kernel
theorem dX12_sums_23 : decode cX12_sums 23 = .ok (.aload_n 0, 1) := by decide +kernel
theorem dX12_sums_24 : decode cX12_sums 24 = .ok (.bipush 43, 2) := by decide +kernel
theorem dX12_sums_26 : decode cX12_sums 26 = .ok (.invokevirtual 162, 3) := by decide +kernel
theorem dX12_sums_29 : decode cX12_sums 29 = .ok (.istore_n 2, 1) := by decide +kernel
theorem dX12_sums_30 : decode cX12_sums 30 = .ok (.aload_n 0, 1) := by decide +kernel
theorem dX12_sums_31 : decode cX12_sums 31 = .ok (.dup, 1) := by decide +kernel
theorem dX12_sums_32 : decode cX12_sums 32 = .ok (.getfield 156, 3) := by decide +kernel
theorem dX12_sums_35 : decode cX12_sums 35 = .ok (.iconst 1, 1) := by decide +kernel
theorem dX12_sums_36 : decode cX12_sums 36 = .ok (.iadd, 1) := by decide +kernel
theorem dX12_sums_37 : decode cX12_sums 37 = .ok (.putfield 156, 3) := by decide +kernel
theorem dX12_sums_40 : decode cX12_sums 40 = .ok (.aload_n 0, 1) := by decide +kernel
theorem dX12_sums_41 : decode cX12_sums 41 = .ok (.iload_n 1, 1) := by decide +kernel
theorem dX12_sums_42 : decode cX12_sums 42 = .ok (.invokevirtual 256, 3) := by decide +kernel
theorem dX12_sums_45 : decode cX12_sums 45 = .ok (.aload_n 0, 1) := by decide +kernel
theorem dX12_sums_46 : decode cX12_sums 46 = .ok (.iload_n 2, 1) := by decide +kernel
theorem dX12_sums_47 : decode cX12_sums 47 = .ok (.ifCond .eq 7, 3) := by decide +kernel
theorem dX12_sums_50 : decode cX12_sums 50 = .ok (.iconst 4, 1) := by decide +kernel
theorem dX12_sums_51 : decode cX12_sums 51 = .ok (.goto 4, 3) := by decide +kernel
theorem dX12_sums_54 : decode cX12_sums 54 = .ok (.iconst 5, 1) := by decide +kernel
theorem dX12_sums_55 : decode cX12_sums 55 = .ok (.iconst 0, 1) := by decide +kernel
theorem dX12_sums_56 : decode cX12_sums 56 = .ok (.invokevirtual 240, 3) := by decide +kernel
theorem dX12_sums_59 : decode cX12_sums 59 = .ok (.goto (-54), 3) := by decide +kernel
theorem dX12_sums_62 : decode cX12_sums 62 = .ok (.return_, 1) := by decide +kernel
theorem dX12_products_0 : decode cX12_products 0 = .ok (.aload_n 0, 1) := by decide +kernel
theorem dX12_products_1 : decode cX12_products 1 = .ok (.iload_n 1, 1) := by decide +kernel
theorem dX12_products_2 : decode cX12_products 2 = .ok (.invokevirtual 259, 3) := by decide +kernel
theorem dX12_products_5 : decode cX12_products 5 = .ok (.aload_n 0, 1) := by decide +kernel
theorem dX12_products_6 : decode cX12_products 6 = .ok (.bipush 42, 2) := by decide +kernel
theorem dX12_products_8 : decode cX12_products 8 = .ok (.invokevirtual 253, 3) := by decide +kernel
theorem dX12_products_11 : decode cX12_products 11 = .ok (.ifCond .eq 18, 3) := by decide +kernel
theorem dX12_products_14 : decode cX12_products 14 = .ok (.aload_n 0, 1) := by decide +kernel
theorem dX12_products_15 : decode cX12_products 15 = .ok (.iload_n 1, 1) := by decide +kernel
theorem dX12_products_16 : decode cX12_products 16 = .ok (.invokevirtual 259, 3) := by decide +kernel
theorem dX12_products_19 : decode cX12_products 19 = .ok (.aload_n 0, 1) := by decide +kernel
theorem dX12_products_20 : decode cX12_products 20 = .ok (.bipush 6, 2) := by decide +kernel
theorem dX12_products_22 : decode cX12_products 22 = .ok (.iconst 0, 1) := by decide +kernel
theorem dX12_products_23 : decode cX12_products 23 = .ok (.invokevirtual 240, 3) := by decide +kernel
theorem dX12_products_26 : decode cX12_products 26 = .ok (.goto (-21), 3) := by decide +kernel
theorem dX12_products_29 : decode cX12_products 29 = .ok (.return_, 1) := by decide +kernel
theorem dX12_takePart_0 : decode cX12_takePart 0 = .ok (.aload_n 0, 1) := by decide +kernel
theorem dX12_takePart_1 : decode cX12_takePart 1 = .ok (.getfield 159, 3) := by decide +kernel
theorem dX12_takePart_4 : decode cX12_takePart 4 = .ok (.ifCond .le 4, 3) := by decide +kernel
theorem dX12_takePart_7 : decode cX12_takePart 7 = .ok (.return_, 1) := by decide +kernel
theorem dX12_takePart_8 : decode cX12_takePart 8 = .ok (.aload_n 0, 1) := by decide +kernel
theorem dX12_takePart_9 : decode cX12_takePart 9 = .ok (.getfield 24, 3) := by decide +kernel
theorem dX12_takePart_12 : decode cX12_takePart 12 = .ok (.aload_n 0, 1) := by decide +kernel
theorem dX12_takePart_13 : decode cX12_takePart 13 = .ok (.getfield 156, 3) := by decide +kernel
theorem dX12_takePart_16 : decode cX12_takePart 16 = .ok (.iaload, 1) := by decide +kernel
theorem dX12_takePart_17 : decode cX12_takePart 17 = .ok (.iconst 2, 1) := by decide +kernel
theorem dX12_takePart_18 : decode cX12_takePart 18 = .ok (.if_icmp .ne 7, 3) := by decide +kernel
theorem dX12_takePart_21 : decode cX12_takePart 21 = .ok (.iconst 1, 1) := by decide +kernel
theorem dX12_takePart_22 : decode cX12_takePart 22 = .ok (.goto 4, 3) := by decide +kernel
theorem dX12_takePart_25 : decode cX12_takePart 25 = .ok (.iconst 0, 1) := by decide +kernel
theorem dX12_takePart_26 : decode cX12_takePart 26 = .ok (.istore_n 2, 1) := by decide +kernel
theorem dX12_takePart_27 : decode cX12_takePart 27 = .ok (.aload_n 0, 1) := by decide +kernel
theorem dX12_takePart_28 : decode cX12_takePart 28 = .ok (.bipush 22, 2) := by decide +kernel
theorem dX12_takePart_30 : decode cX12_takePart 30 = .ok (.iconst 4, 1) := by decide +kernel
theorem dX12_takePart_31 : decode cX12_takePart 31 = .ok (.invokevirtual 181, 3) := by decide +kernel
theorem dX12_takePart_34 : decode cX12_takePart 34 = .ok (.istore_n 3, 1) := by decide +kernel
theorem dX12_takePart_35 : decode cX12_takePart 35 = .ok (.iload_n 3, 1) := by decide +kernel
theorem dX12_takePart_36 : decode cX12_takePart 36 = .ok (.ifCond .ge 33, 3) := by decide +kernel
theorem dX12_takePart_39 : decode cX12_takePart 39 = .ok (.iload_n 2, 1) := by decide +kernel
theorem dX12_takePart_40 : decode cX12_takePart 40 = .ok (.ifCond .ne 29, 3) := by decide +kernel
theorem dX12_takePart_43 : decode cX12_takePart 43 = .ok (.aload_n 0, 1) := by decide +kernel
theorem dX12_takePart_44 : decode cX12_takePart 44 = .ok (.bipush 40, 2) := by decide +kernel
theorem dX12_takePart_46 : decode cX12_takePart 46 = .ok (.invokevirtual 162, 3) := by decide +kernel
theorem dX12_takePart_49 : decode cX12_takePart 49 = .ok (.ifCond .ne 20, 3) := by decide +kernel
theorem dX12_takePart_52 : decode cX12_takePart 52 = .ok (.aload_n 0, 1) := by decide +kernel
theorem dX12_takePart_53 : decode cX12_takePart 53 = .ok (.bipush 19, 2) := by decide +kernel
theorem dX12_takePart_55 : decode cX12_takePart 55 = .ok (.invokevirtual 168, 3) := by decide +kernel
theorem dX12_takePart_58 : decode cX12_takePart 58 = .ok (.ifCond .ne 11, 3) := by decide +kernel
theorem dX12_takePart_61 : decode cX12_takePart 61 = .ok (.aload_n 0, 1) := by decide +kernel
theorem dX12_takePart_62 : decode cX12_takePart 62 = .ok (.iconst 1, 1) := by decide +kernel
theorem dX12_takePart_63 : decode cX12_takePart 63 = .ok (.invokevirtual 165, 3) := by decide +kernel
theorem dX12_takePart_66 : decode cX12_takePart 66 = .ok (.goto 13, 3) := by decide +kernel
theorem dX12_takePart_69 : decode cX12_takePart 69 = .ok (.iload_n 1, 1) := by decide +kernel
theorem dX12_takePart_70 : decode cX12_takePart 70 = .ok (.iconst 5, 1) := by decide +kernel
theorem dX12_takePart_71 : decode cX12_takePart 71 = .ok (.if_icmp .ne 8, 3) := by decide +kernel
theorem dX12_takePart_74 : decode cX12_takePart 74 = .ok (.aload_n 0, 1) := by decide +kernel
theorem dX12_takePart_75 : decode cX12_takePart 75 = .ok (.iconst 5, 1) := by decide +kernel
theorem dX12_takePart_76 : decode cX12_takePart 76 = .ok (.invokevirtual 165, 3) := by decide +kernel
theorem dX12_takePart_79 : decode cX12_takePart 79 = .ok (.aload_n 0, 1) := by decide +kernel
theorem dX12_takePart_80 : decode cX12_takePart 80 = .ok (.getfield 159, 3) := by decide +kernel
theorem dX12_takePart_83 : decode cX12_takePart 83 = .ok (.ifCond .le 4, 3) := by decide +kernel
theorem dX12_takePart_86 : decode cX12_takePart 86 = .ok (.return_, 1) := by decide +kernel
theorem dX12_takePart_87 : decode cX12_takePart 87 = .ok (.aload_n 0, 1) := by decide +kernel
theorem dX12_takePart_88 : decode cX12_takePart 88 = .ok (.bipush 19, 2) := by decide +kernel
theorem dX12_takePart_90 : decode cX12_takePart 90 = .ok (.invokevirtual 171, 3) := by decide +kernel
theorem dX12_takePart_93 : decode cX12_takePart 93 = .ok (.ifCond .eq 19, 3) := by decide +kernel
theorem dX12_takePart_96 : decode cX12_takePart 96 = .ok (.aload_n 0, 1) := by decide +kernel
theorem dX12_takePart_97 : decode cX12_takePart 97 = .ok (.iload_n 1, 1) := by decide +kernel
theorem dX12_takePart_98 : decode cX12_takePart 98 = .ok (.iconst 1, 1) := by decide +kernel
theorem dX12_takePart_99 : decode cX12_takePart 99 = .ok (.iadd, 1) := by decide +kernel
theorem dX12_takePart_100 : decode cX12_takePart 100 = .ok (.invokevirtual 259, 3) := by decide +kernel
theorem dX12_takePart_103 : decode cX12_takePart 103 = .ok (.aload_n 0, 1) := by decide +kernel
theorem dX12_takePart_104 : decode cX12_takePart 104 = .ok (.iconst 3, 1) := by decide +kernel
theorem dX12_takePart_105 : decode cX12_takePart 105 = .ok (.iconst 0, 1) := by decide +kernel
theorem dX12_takePart_106 : decode cX12_takePart 106 = .ok (.invokevirtual 240, 3) := by decide +kernel
theorem dX12_takePart_109 : decode cX12_takePart 109 = .ok (.goto 69, 3) := by decide +kernel
theorem dX12_takePart_112 : decode cX12_takePart 112 = .ok (.aload_n 0, 1) := by decide +kernel
theorem dX12_takePart_113 : decode cX12_takePart 113 = .ok (.bipush 40, 2) := by decide +kernel
theorem dX12_takePart_115 : decode cX12_takePart 115 = .ok (.invokevirtual 253, 3) := by decide +kernel
theorem dX12_takePart_118 : decode cX12_takePart 118 = .ok (.ifCond .eq 19, 3) := by decide +kernel
theorem dX12_takePart_121 : decode cX12_takePart 121 = .ok (.aload_n 0, 1) := by decide +kernel
theorem dX12_takePart_122 : decode cX12_takePart 122 = .ok (.iload_n 1, 1) := by decide +kernel
theorem dX12_takePart_123 : decode cX12_takePart 123 = .ok (.iconst 1, 1) := by decide +kernel
theorem dX12_takePart_124 : decode cX12_takePart 124 = .ok (.iadd, 1) := by decide +kernel
theorem dX12_takePart_125 : decode cX12_takePart 125 = .ok (.invokevirtual 237, 3) := by decide +kernel
theorem dX12_takePart_128 : decode cX12_takePart 128 = .ok (.aload_n 0, 1) := by decide +kernel
theorem dX12_takePart_129 : decode cX12_takePart 129 = .ok (.bipush 41, 2) := by decide +kernel
theorem dX12_takePart_131 : decode cX12_takePart 131 = .ok (.invokevirtual 214, 3) := by decide +kernel
theorem dX12_takePart_134 : decode cX12_takePart 134 = .ok (.goto 44, 3) := by decide +kernel
theorem dX12_takePart_137 : decode cX12_takePart 137 = .ok (.aload_n 0, 1) := by decide +kernel
theorem dX12_takePart_138 : decode cX12_takePart 138 = .ok (.iload_n 2, 1) := by decide +kernel
theorem dX12_takePart_139 : decode cX12_takePart 139 = .ok (.ifCond .eq 7, 3) := by decide +kernel
theorem dX12_takePart_142 : decode cX12_takePart 142 = .ok (.iconst 1, 1) := by decide +kernel
theorem dX12_takePart_143 : decode cX12_takePart 143 = .ok (.goto 4, 3) := by decide +kernel
theorem dX12_takePart_146 : decode cX12_takePart 146 = .ok (.iconst 2, 1) := by decide +kernel
theorem dX12_takePart_147 : decode cX12_takePart 147 = .ok (.iload_n 2, 1) := by decide +kernel
theorem dX12_takePart_148 : decode cX12_takePart 148 = .ok (.ifCond .eq 16, 3) := by decide +kernel
theorem dX12_takePart_151 : decode cX12_takePart 151 = .ok (.aload_n 0, 1) := by decide +kernel
theorem dX12_takePart_152 : decode cX12_takePart 152 = .ok (.getfield 30, 3) := by decide +kernel
theorem dX12_takePart_155 : decode cX12_takePart 155 = .ok (.aload_n 0, 1) := by decide +kernel
theorem dX12_takePart_156 : decode cX12_takePart 156 = .ok (.getfield 156, 3) := by decide +kernel
theorem dX12_takePart_159 : decode cX12_takePart 159 = .ok (.laload, 1) := by decide +kernel
theorem dX12_takePart_160 : decode cX12_takePart 160 = .ok (.l2i, 1) := by decide +kernel
theorem dX12_takePart_161 : decode cX12_takePart 161 = .ok (.goto 4, 3) := by decide +kernel
theorem dX12_takePart_164 : decode cX12_takePart 164 = .ok (.iload_n 3, 1) := by decide +kernel
theorem dX12_takePart_165 : decode cX12_takePart 165 = .ok (.invokevirtual 240, 3) := by decide +kernel
theorem dX12_takePart_168 : decode cX12_takePart 168 = .ok (.aload_n 0, 1) := by decide +kernel
theorem dX12_takePart_169 : decode cX12_takePart 169 = .ok (.dup, 1) := by decide +kernel
theorem dX12_takePart_170 : decode cX12_takePart 170 = .ok (.getfield 156, 3) := by decide +kernel
theorem dX12_takePart_173 : decode cX12_takePart 173 = .ok (.iconst 1, 1) := by decide +kernel
theorem dX12_takePart_174 : decode cX12_takePart 174 = .ok (.iadd, 1) := by decide +kernel
theorem dX12_takePart_175 : decode cX12_takePart 175 = .ok (.putfield 156, 3) := by decide +kernel
theorem dX12_takePart_178 : decode cX12_takePart 178 = .ok (.return_, 1) := by decide +kernel
theorem dX12_worthAt_0 : decode cX12_worthAt 0 = .ok (.iconst 0, 1) := by decide +kernel
theorem dX12_worthAt_1 : decode cX12_worthAt 1 = .ok (.istore_n 2, 1) := by decide +kernel
theorem dX12_worthAt_2 : decode cX12_worthAt 2 = .ok (.iload_n 1, 1) := by decide +kernel
theorem dX12_worthAt_3 : decode cX12_worthAt 3 = .ok (.istore_n 3, 1) := by decide +kernel
theorem dX12_worthAt_4 : decode cX12_worthAt 4 = .ok (.aload_n 0, 1) := by decide +kernel
theorem dX12_worthAt_5 : decode cX12_worthAt 5 = .ok (.getfield 92, 3) := by decide +kernel
theorem dX12_worthAt_8 : decode cX12_worthAt 8 = .ok (.iload_n 3, 1) := by decide +kernel
theorem dX12_worthAt_9 : decode cX12_worthAt 9 = .ok (.iaload, 1) := by decide +kernel
theorem dX12_worthAt_10 : decode cX12_worthAt 10 = .ok (.ifCond .eq 130, 3) := by decide +kernel
theorem dX12_worthAt_13 : decode cX12_worthAt 13 = .ok (.aload_n 0, 1) := by decide +kernel
theorem dX12_worthAt_14 : decode cX12_worthAt 14 = .ok (.getfield 92, 3) := by decide +kernel
theorem dX12_worthAt_17 : decode cX12_worthAt 17 = .ok (.iload_n 3, 1) := by decide +kernel
theorem dX12_worthAt_18 : decode cX12_worthAt 18 = .ok (.iaload, 1) := by decide +kernel
theorem dX12_worthAt_19 : decode cX12_worthAt 19 = .ok (.istore 4, 2) := by decide +kernel
theorem dX12_worthAt_21 : decode cX12_worthAt 21 = .ok (.iload 4, 2) := by decide +kernel
theorem dX12_worthAt_23 : decode cX12_worthAt 23 = .ok (.iconst 1, 1) := by decide +kernel
theorem dX12_worthAt_24 : decode cX12_worthAt 24 = .ok (.if_icmp .eq 9, 3) := by decide +kernel
theorem dX12_worthAt_27 : decode cX12_worthAt 27 = .ok (.iload 4, 2) := by decide +kernel
theorem dX12_worthAt_29 : decode cX12_worthAt 29 = .ok (.iconst 2, 1) := by decide +kernel
theorem dX12_worthAt_30 : decode cX12_worthAt 30 = .ok (.if_icmp .ne 41, 3) := by decide +kernel
theorem dX12_worthAt_33 : decode cX12_worthAt 33 = .ok (.aload_n 0, 1) := by decide +kernel
theorem dX12_worthAt_34 : decode cX12_worthAt 34 = .ok (.getfield 116, 3) := by decide +kernel
theorem dX12_worthAt_37 : decode cX12_worthAt 37 = .ok (.iload_n 2, 1) := by decide +kernel
theorem dX12_worthAt_38 : decode cX12_worthAt 38 = .ok (.iload 4, 2) := by decide +kernel
theorem dX12_worthAt_40 : decode cX12_worthAt 40 = .ok (.iconst 1, 1) := by decide +kernel
theorem dX12_worthAt_41 : decode cX12_worthAt 41 = .ok (.if_icmp .ne 12, 3) := by decide +kernel
theorem dX12_worthAt_44 : decode cX12_worthAt 44 = .ok (.aload_n 0, 1) := by decide +kernel
theorem dX12_worthAt_45 : decode cX12_worthAt 45 = .ok (.getfield 95, 3) := by decide +kernel
theorem dX12_worthAt_48 : decode cX12_worthAt 48 = .ok (.iload_n 3, 1) := by decide +kernel
theorem dX12_worthAt_49 : decode cX12_worthAt 49 = .ok (.iaload, 1) := by decide +kernel
theorem dX12_worthAt_50 : decode cX12_worthAt 50 = .ok (.goto 14, 3) := by decide +kernel
theorem dX12_worthAt_53 : decode cX12_worthAt 53 = .ok (.aload_n 0, 1) := by decide +kernel
theorem dX12_worthAt_54 : decode cX12_worthAt 54 = .ok (.getfield 113, 3) := by decide +kernel
theorem dX12_worthAt_57 : decode cX12_worthAt 57 = .ok (.aload_n 0, 1) := by decide +kernel
theorem dX12_worthAt_58 : decode cX12_worthAt 58 = .ok (.getfield 95, 3) := by decide +kernel
theorem dX12_worthAt_61 : decode cX12_worthAt 61 = .ok (.iload_n 3, 1) := by decide +kernel
theorem dX12_worthAt_62 : decode cX12_worthAt 62 = .ok (.iaload, 1) := by decide +kernel
theorem dX12_worthAt_63 : decode cX12_worthAt 63 = .ok (.iaload, 1) := by decide +kernel
theorem dX12_worthAt_64 : decode cX12_worthAt 64 = .ok (.iastore, 1) := by decide +kernel
theorem dX12_worthAt_65 : decode cX12_worthAt 65 = .ok (.iinc 2 1, 3) := by decide +kernel
theorem dX12_worthAt_68 : decode cX12_worthAt 68 = .ok (.goto 66, 3) := by decide +kernel
theorem dX12_worthAt_71 : decode cX12_worthAt 71 = .ok (.iload 4, 2) := by decide +kernel
theorem dX12_worthAt_73 : decode cX12_worthAt 73 = .ok (.iconst 3, 1) := by decide +kernel
theorem dX12_worthAt_74 : decode cX12_worthAt 74 = .ok (.if_icmp .ne 30, 3) := by decide +kernel
theorem dX12_worthAt_77 : decode cX12_worthAt 77 = .ok (.aload_n 0, 1) := by decide +kernel
theorem dX12_worthAt_78 : decode cX12_worthAt 78 = .ok (.getfield 116, 3) := by decide +kernel
theorem dX12_worthAt_81 : decode cX12_worthAt 81 = .ok (.iload_n 2, 1) := by decide +kernel
theorem dX12_worthAt_82 : decode cX12_worthAt 82 = .ok (.iconst 1, 1) := by decide +kernel
theorem dX12_worthAt_83 : decode cX12_worthAt 83 = .ok (.isub, 1) := by decide +kernel
theorem dX12_worthAt_84 : decode cX12_worthAt 84 = .ok (.aload_n 0, 1) := by decide +kernel
theorem dX12_worthAt_85 : decode cX12_worthAt 85 = .ok (.getfield 116, 3) := by decide +kernel
theorem dX12_worthAt_88 : decode cX12_worthAt 88 = .ok (.iload_n 2, 1) := by decide +kernel
theorem dX12_worthAt_89 : decode cX12_worthAt 89 = .ok (.iconst 1, 1) := by decide +kernel
theorem dX12_worthAt_90 : decode cX12_worthAt 90 = .ok (.isub, 1) := by decide +kernel
theorem dX12_worthAt_91 : decode cX12_worthAt 91 = .ok (.iaload, 1) := by decide +kernel
theorem dX12_worthAt_92 : decode cX12_worthAt 92 = .ok (.ifCond .ne 7, 3) := by decide +kernel
theorem dX12_worthAt_95 : decode cX12_worthAt 95 = .ok (.iconst 1, 1) := by decide +kernel
theorem dX12_worthAt_96 : decode cX12_worthAt 96 = .ok (.goto 4, 3) := by decide +kernel
theorem dX12_worthAt_99 : decode cX12_worthAt 99 = .ok (.iconst 0, 1) := by decide +kernel
theorem dX12_worthAt_100 : decode cX12_worthAt 100 = .ok (.iastore, 1) := by decide +kernel
theorem dX12_worthAt_101 : decode cX12_worthAt 101 = .ok (.goto 33, 3) := by decide +kernel
theorem dX12_worthAt_104 : decode cX12_worthAt 104 = .ok (.iinc 2 (-1), 3) := by decide +kernel
theorem dX12_worthAt_107 : decode cX12_worthAt 107 = .ok (.aload_n 0, 1) := by decide +kernel
theorem dX12_worthAt_108 : decode cX12_worthAt 108 = .ok (.getfield 116, 3) := by decide +kernel
theorem dX12_worthAt_111 : decode cX12_worthAt 111 = .ok (.iload_n 2, 1) := by decide +kernel
theorem dX12_worthAt_112 : decode cX12_worthAt 112 = .ok (.iconst 1, 1) := by decide +kernel
theorem dX12_worthAt_113 : decode cX12_worthAt 113 = .ok (.isub, 1) := by decide +kernel
theorem dX12_worthAt_114 : decode cX12_worthAt 114 = .ok (.iload 4, 2) := by decide +kernel
theorem dX12_worthAt_116 : decode cX12_worthAt 116 = .ok (.aload_n 0, 1) := by decide +kernel
theorem dX12_worthAt_117 : decode cX12_worthAt 117 = .ok (.getfield 116, 3) := by decide +kernel
theorem dX12_worthAt_120 : decode cX12_worthAt 120 = .ok (.iload_n 2, 1) := by decide +kernel
theorem dX12_worthAt_121 : decode cX12_worthAt 121 = .ok (.iconst 1, 1) := by decide +kernel
theorem dX12_worthAt_122 : decode cX12_worthAt 122 = .ok (.isub, 1) := by decide +kernel
theorem dX12_worthAt_123 : decode cX12_worthAt 123 = .ok (.iaload, 1) := by decide +kernel
theorem dX12_worthAt_124 : decode cX12_worthAt 124 = .ok (.aload_n 0, 1) := by decide +kernel
theorem dX12_worthAt_125 : decode cX12_worthAt 125 = .ok (.getfield 116, 3) := by decide +kernel
theorem dX12_worthAt_128 : decode cX12_worthAt 128 = .ok (.iload_n 2, 1) := by decide +kernel
theorem dX12_worthAt_129 : decode cX12_worthAt 129 = .ok (.iaload, 1) := by decide +kernel
theorem dX12_worthAt_130 : decode cX12_worthAt 130 = .ok (.invokestatic 262, 3) := by decide +kernel
theorem dX12_worthAt_133 : decode cX12_worthAt 133 = .ok (.iastore, 1) := by decide +kernel
theorem dX12_worthAt_134 : decode cX12_worthAt 134 = .ok (.iinc 3 1, 3) := by decide +kernel
theorem dX12_worthAt_137 : decode cX12_worthAt 137 = .ok (.goto (-133), 3) := by decide +kernel
theorem dX12_worthAt_140 : decode cX12_worthAt 140 = .ok (.aload_n 0, 1) := by decide +kernel
theorem dX12_worthAt_141 : decode cX12_worthAt 141 = .ok (.getfield 116, 3) := by decide +kernel
theorem dX12_worthAt_144 : decode cX12_worthAt 144 = .ok (.iconst 0, 1) := by decide +kernel
theorem dX12_worthAt_145 : decode cX12_worthAt 145 = .ok (.iaload, 1) := by decide +kernel
theorem dX12_worthAt_146 : decode cX12_worthAt 146 = .ok (.ireturn, 1) := by decide +kernel
theorem dX12_both_0 : decode cX12_both 0 = .ok (.iload_n 0, 1) := by decide +kernel
theorem dX12_both_1 : decode cX12_both 1 = .ok (.tableswitch 87 4 9 #[39, 43, 47, 51, 62, 73], 39) := by decide +kernel
theorem dX12_both_40 : decode cX12_both 40 = .ok (.iload_n 1, 1) := by decide +kernel
theorem dX12_both_41 : decode cX12_both 41 = .ok (.iload_n 2, 1) := by decide +kernel
theorem dX12_both_42 : decode cX12_both 42 = .ok (.iadd, 1) := by decide +kernel
theorem dX12_both_43 : decode cX12_both 43 = .ok (.ireturn, 1) := by decide +kernel
theorem dX12_both_44 : decode cX12_both 44 = .ok (.iload_n 1, 1) := by decide +kernel
theorem dX12_both_45 : decode cX12_both 45 = .ok (.iload_n 2, 1) := by decide +kernel
theorem dX12_both_46 : decode cX12_both 46 = .ok (.isub, 1) := by decide +kernel
theorem dX12_both_47 : decode cX12_both 47 = .ok (.ireturn, 1) := by decide +kernel
theorem dX12_both_48 : decode cX12_both 48 = .ok (.iload_n 1, 1) := by decide +kernel
theorem dX12_both_49 : decode cX12_both 49 = .ok (.iload_n 2, 1) := by decide +kernel
theorem dX12_both_50 : decode cX12_both 50 = .ok (.imul, 1) := by decide +kernel
theorem dX12_both_51 : decode cX12_both 51 = .ok (.ireturn, 1) := by decide +kernel
theorem dX12_both_52 : decode cX12_both 52 = .ok (.iload_n 1, 1) := by decide +kernel
theorem dX12_both_53 : decode cX12_both 53 = .ok (.iload_n 2, 1) := by decide +kernel
theorem dX12_both_54 : decode cX12_both 54 = .ok (.if_icmp .ge 7, 3) := by decide +kernel
theorem dX12_both_57 : decode cX12_both 57 = .ok (.iconst 1, 1) := by decide +kernel
theorem dX12_both_58 : decode cX12_both 58 = .ok (.goto 4, 3) := by decide +kernel
theorem dX12_both_61 : decode cX12_both 61 = .ok (.iconst 0, 1) := by decide +kernel
theorem dX12_both_62 : decode cX12_both 62 = .ok (.ireturn, 1) := by decide +kernel
theorem dX12_both_63 : decode cX12_both 63 = .ok (.iload_n 1, 1) := by decide +kernel
theorem dX12_both_64 : decode cX12_both 64 = .ok (.iload_n 2, 1) := by decide +kernel
theorem dX12_both_65 : decode cX12_both 65 = .ok (.if_icmp .ne 7, 3) := by decide +kernel
theorem dX12_both_68 : decode cX12_both 68 = .ok (.iconst 1, 1) := by decide +kernel
theorem dX12_both_69 : decode cX12_both 69 = .ok (.goto 4, 3) := by decide +kernel
theorem dX12_both_72 : decode cX12_both 72 = .ok (.iconst 0, 1) := by decide +kernel
theorem dX12_both_73 : decode cX12_both 73 = .ok (.ireturn, 1) := by decide +kernel
theorem dX12_both_74 : decode cX12_both 74 = .ok (.iload_n 1, 1) := by decide +kernel
theorem dX12_both_75 : decode cX12_both 75 = .ok (.ifCond .eq 11, 3) := by decide +kernel
theorem dX12_both_78 : decode cX12_both 78 = .ok (.iload_n 2, 1) := by decide +kernel
theorem dX12_both_79 : decode cX12_both 79 = .ok (.ifCond .eq 7, 3) := by decide +kernel
theorem dX12_both_82 : decode cX12_both 82 = .ok (.iconst 1, 1) := by decide +kernel
theorem dX12_both_83 : decode cX12_both 83 = .ok (.goto 4, 3) := by decide +kernel
theorem dX12_both_86 : decode cX12_both 86 = .ok (.iconst 0, 1) := by decide +kernel
theorem dX12_both_87 : decode cX12_both 87 = .ok (.ireturn, 1) := by decide +kernel
theorem dX12_both_88 : decode cX12_both 88 = .ok (.iload_n 1, 1) := by decide +kernel
theorem dX12_both_89 : decode cX12_both 89 = .ok (.ifCond .ne 7, 3) := by decide +kernel
theorem dX12_both_92 : decode cX12_both 92 = .ok (.iload_n 2, 1) := by decide +kernel
theorem dX12_both_93 : decode cX12_both 93 = .ok (.ifCond .eq 7, 3) := by decide +kernel
theorem dX12_both_96 : decode cX12_both 96 = .ok (.iconst 1, 1) := by decide +kernel
theorem dX12_both_97 : decode cX12_both 97 = .ok (.goto 4, 3) := by decide +kernel
theorem dX12_both_100 : decode cX12_both 100 = .ok (.iconst 0, 1) := by decide +kernel
theorem dX12_both_101 : decode cX12_both 101 = .ok (.ireturn, 1) := by decide +kernel
theorem dX12_copies_0 : decode cX12_copies 0 = .ok (.iconst 0, 1) := by decide +kernel
theorem dX12_copies_1 : decode cX12_copies 1 = .ok (.istore 4, 2) := by decide +kernel
theorem dX12_copies_3 : decode cX12_copies 3 = .ok (.iload 4, 2) := by decide +kernel
theorem dX12_copies_5 : decode cX12_copies 5 = .ok (.iload_n 3, 1) := by decide +kernel
theorem dX12_copies_6 : decode cX12_copies 6 = .ok (.if_icmp .ge 27, 3) := by decide +kernel
theorem dX12_copies_9 : decode cX12_copies 9 = .ok (.aload_n 0, 1) := by decide +kernel
theorem dX12_copies_10 : decode cX12_copies 10 = .ok (.getfield 119, 3) := by decide +kernel
theorem dX12_copies_13 : decode cX12_copies 13 = .ok (.iload_n 2, 1) := by decide +kernel
theorem dX12_copies_14 : decode cX12_copies 14 = .ok (.iload 4, 2) := by decide +kernel
theorem dX12_copies_16 : decode cX12_copies 16 = .ok (.iadd, 1) := by decide +kernel
theorem dX12_copies_17 : decode cX12_copies 17 = .ok (.aload_n 0, 1) := by decide +kernel
theorem dX12_copies_18 : decode cX12_copies 18 = .ok (.getfield 119, 3) := by decide +kernel
theorem dX12_copies_21 : decode cX12_copies 21 = .ok (.iload_n 1, 1) := by decide +kernel
theorem dX12_copies_22 : decode cX12_copies 22 = .ok (.iload 4, 2) := by decide +kernel
theorem dX12_copies_24 : decode cX12_copies 24 = .ok (.iadd, 1) := by decide +kernel
theorem dX12_copies_25 : decode cX12_copies 25 = .ok (.iaload, 1) := by decide +kernel
theorem dX12_copies_26 : decode cX12_copies 26 = .ok (.iastore, 1) := by decide +kernel
theorem dX12_copies_27 : decode cX12_copies 27 = .ok (.iinc 4 1, 3) := by decide +kernel
theorem dX12_copies_30 : decode cX12_copies 30 = .ok (.goto (-27), 3) := by decide +kernel
theorem dX12_copies_33 : decode cX12_copies 33 = .ok (.return_, 1) := by decide +kernel
theorem dX12_starts_0 : decode cX12_starts 0 = .ok (.iconst 0, 1) := by decide +kernel
theorem dX12_starts_1 : decode cX12_starts 1 = .ok (.istore_n 2, 1) := by decide +kernel
theorem dX12_starts_2 : decode cX12_starts 2 = .ok (.iload_n 2, 1) := by decide +kernel
theorem dX12_starts_3 : decode cX12_starts 3 = .ok (.bipush 60, 2) := by decide +kernel
theorem dX12_starts_5 : decode cX12_starts 5 = .ok (.if_icmp .ge 18, 3) := by decide +kernel
theorem dX12_starts_8 : decode cX12_starts 8 = .ok (.aload_n 0, 1) := by decide +kernel
theorem dX12_starts_9 : decode cX12_starts 9 = .ok (.getfield 119, 3) := by decide +kernel
theorem dX12_starts_12 : decode cX12_starts 12 = .ok (.iload_n 1, 1) := by decide +kernel
theorem dX12_starts_13 : decode cX12_starts 13 = .ok (.iload_n 2, 1) := by decide +kernel
theorem dX12_starts_14 : decode cX12_starts 14 = .ok (.iadd, 1) := by decide +kernel
theorem dX12_starts_15 : decode cX12_starts 15 = .ok (.iconst 0, 1) := by decide +kernel
theorem dX12_starts_16 : decode cX12_starts 16 = .ok (.iastore, 1) := by decide +kernel
theorem dX12_starts_17 : decode cX12_starts 17 = .ok (.iinc 2 1, 3) := by decide +kernel
theorem dX12_starts_20 : decode cX12_starts 20 = .ok (.goto (-18), 3) := by decide +kernel
theorem dX12_starts_23 : decode cX12_starts 23 = .ok (.iconst 0, 1) := by decide +kernel
theorem dX12_starts_24 : decode cX12_starts 24 = .ok (.istore_n 2, 1) := by decide +kernel
theorem dX12_starts_25 : decode cX12_starts 25 = .ok (.iload_n 2, 1) := by decide +kernel
theorem dX12_starts_26 : decode cX12_starts 26 = .ok (.aload_n 0, 1) := by decide +kernel
theorem dX12_starts_27 : decode cX12_starts 27 = .ok (.invokevirtual 265, 3) := by decide +kernel
theorem dX12_starts_30 : decode cX12_starts 30 = .ok (.if_icmp .ge 28, 3) := by decide +kernel
theorem dX12_starts_33 : decode cX12_starts 33 = .ok (.aload_n 0, 1) := by decide +kernel
theorem dX12_starts_34 : decode cX12_starts 34 = .ok (.getfield 119, 3) := by decide +kernel
theorem dX12_starts_37 : decode cX12_starts 37 = .ok (.iload_n 1, 1) := by decide +kernel
theorem dX12_starts_38 : decode cX12_starts 38 = .ok (.iconst 1, 1) := by decide +kernel
theorem dX12_starts_39 : decode cX12_starts 39 = .ok (.iadd, 1) := by decide +kernel
theorem dX12_starts_40 : decode cX12_starts 40 = .ok (.iload_n 2, 1) := by decide +kernel
theorem dX12_starts_41 : decode cX12_starts 41 = .ok (.iadd, 1) := by decide +kernel
theorem dX12_starts_42 : decode cX12_starts 42 = .ok (.aload_n 0, 1) := by decide +kernel
theorem dX12_starts_43 : decode cX12_starts 43 = .ok (.getfield 89, 3) := by decide +kernel
theorem dX12_starts_46 : decode cX12_starts 46 = .ok (.bipush 23, 2) := by decide +kernel
theorem dX12_starts_48 : decode cX12_starts 48 = .ok (.iload_n 2, 1) := by decide +kernel
theorem dX12_starts_49 : decode cX12_starts 49 = .ok (.iadd, 1) := by decide +kernel
theorem dX12_starts_50 : decode cX12_starts 50 = .ok (.iaload, 1) := by decide +kernel
theorem dX12_starts_51 : decode cX12_starts 51 = .ok (.iastore, 1) := by decide +kernel
theorem dX12_starts_52 : decode cX12_starts 52 = .ok (.iinc 2 1, 3) := by decide +kernel
theorem dX12_starts_55 : decode cX12_starts 55 = .ok (.goto (-30), 3) := by decide +kernel
theorem dX12_starts_58 : decode cX12_starts 58 = .ok (.return_, 1) := by decide +kernel
theorem dX12_begins_0 : decode cX12_begins 0 = .ok (.aload_n 0, 1) := by decide +kernel
theorem dX12_begins_1 : decode cX12_begins 1 = .ok (.iconst 0, 1) := by decide +kernel
theorem dX12_begins_2 : decode cX12_begins 2 = .ok (.invokevirtual 269, 3) := by decide +kernel
theorem dX12_begins_5 : decode cX12_begins 5 = .ok (.iconst 0, 1) := by decide +kernel
theorem dX12_begins_6 : decode cX12_begins 6 = .ok (.istore_n 1, 1) := by decide +kernel
theorem dX12_begins_7 : decode cX12_begins 7 = .ok (.iload_n 1, 1) := by decide +kernel
theorem dX12_begins_8 : decode cX12_begins 8 = .ok (.bipush 6, 2) := by decide +kernel
theorem dX12_begins_10 : decode cX12_begins 10 = .ok (.if_icmp .ge 19, 3) := by decide +kernel
theorem dX12_begins_13 : decode cX12_begins 13 = .ok (.aload_n 0, 1) := by decide +kernel
theorem dX12_begins_14 : decode cX12_begins 14 = .ok (.getfield 119, 3) := by decide +kernel
theorem dX12_begins_17 : decode cX12_begins 17 = .ok (.bipush 60, 2) := by decide +kernel
theorem dX12_begins_19 : decode cX12_begins 19 = .ok (.iload_n 1, 1) := by decide +kernel
theorem dX12_begins_20 : decode cX12_begins 20 = .ok (.iadd, 1) := by decide +kernel
theorem dX12_begins_21 : decode cX12_begins 21 = .ok (.iconst (-1), 1) := by decide +kernel
theorem dX12_begins_22 : decode cX12_begins 22 = .ok (.iastore, 1) := by decide +kernel
theorem dX12_begins_23 : decode cX12_begins 23 = .ok (.iinc 1 1, 3) := by decide +kernel
theorem dX12_begins_26 : decode cX12_begins 26 = .ok (.goto (-19), 3) := by decide +kernel
theorem dX12_begins_29 : decode cX12_begins 29 = .ok (.aload_n 0, 1) := by decide +kernel
theorem dX12_begins_30 : decode cX12_begins 30 = .ok (.getfield 110, 3) := by decide +kernel
theorem dX12_begins_33 : decode cX12_begins 33 = .ok (.iconst 0, 1) := by decide +kernel
theorem dX12_begins_34 : decode cX12_begins 34 = .ok (.iconst 0, 1) := by decide +kernel
theorem dX12_begins_35 : decode cX12_begins 35 = .ok (.iastore, 1) := by decide +kernel
theorem dX12_begins_36 : decode cX12_begins 36 = .ok (.aload_n 0, 1) := by decide +kernel
theorem dX12_begins_37 : decode cX12_begins 37 = .ok (.iconst 0, 1) := by decide +kernel
theorem dX12_begins_38 : decode cX12_begins 38 = .ok (.putfield 272, 3) := by decide +kernel
theorem dX12_begins_41 : decode cX12_begins 41 = .ok (.iconst 0, 1) := by decide +kernel
theorem dX12_begins_42 : decode cX12_begins 42 = .ok (.istore_n 1, 1) := by decide +kernel
theorem dX12_begins_43 : decode cX12_begins 43 = .ok (.iload_n 1, 1) := by decide +kernel
theorem dX12_begins_44 : decode cX12_begins 44 = .ok (.iconst 4, 1) := by decide +kernel
theorem dX12_begins_45 : decode cX12_begins 45 = .ok (.if_icmp .ge 16, 3) := by decide +kernel
theorem dX12_begins_48 : decode cX12_begins 48 = .ok (.aload_n 0, 1) := by decide +kernel
theorem dX12_begins_49 : decode cX12_begins 49 = .ok (.getfield 122, 3) := by decide +kernel
theorem dX12_begins_52 : decode cX12_begins 52 = .ok (.iload_n 1, 1) := by decide +kernel
theorem dX12_begins_53 : decode cX12_begins 53 = .ok (.iconst 0, 1) := by decide +kernel
theorem dX12_begins_54 : decode cX12_begins 54 = .ok (.bastore, 1) := by decide +kernel
theorem dX12_begins_55 : decode cX12_begins 55 = .ok (.iinc 1 1, 3) := by decide +kernel
theorem dX12_begins_58 : decode cX12_begins 58 = .ok (.goto (-15), 3) := by decide +kernel
theorem dX12_begins_61 : decode cX12_begins 61 = .ok (.return_, 1) := by decide +kernel
theorem dX12_keeps_0 : decode cX12_keeps 0 = .ok (.aload_n 0, 1) := by decide +kernel
theorem dX12_keeps_1 : decode cX12_keeps 1 = .ok (.getfield 272, 3) := by decide +kernel
theorem dX12_keeps_4 : decode cX12_keeps 4 = .ok (.bipush 16, 2) := by decide +kernel
theorem dX12_keeps_6 : decode cX12_keeps 6 = .ok (.if_icmp .ne 47, 3) := by decide +kernel
theorem dX12_keeps_9 : decode cX12_keeps 9 = .ok (.iconst 1, 1) := by decide +kernel
theorem dX12_keeps_10 : decode cX12_keeps 10 = .ok (.istore_n 1, 1) := by decide +kernel
theorem dX12_keeps_11 : decode cX12_keeps 11 = .ok (.iload_n 1, 1) := by decide +kernel
theorem dX12_keeps_12 : decode cX12_keeps 12 = .ok (.bipush 16, 2) := by decide +kernel
theorem dX12_keeps_14 : decode cX12_keeps 14 = .ok (.if_icmp .ge 29, 3) := by decide +kernel
theorem dX12_keeps_17 : decode cX12_keeps 17 = .ok (.aload_n 0, 1) := by decide +kernel
theorem dX12_keeps_18 : decode cX12_keeps 18 = .ok (.bipush 66, 2) := by decide +kernel
theorem dX12_keeps_20 : decode cX12_keeps 20 = .ok (.iconst 5, 1) := by decide +kernel
theorem dX12_keeps_21 : decode cX12_keeps 21 = .ok (.iload_n 1, 1) := by decide +kernel
theorem dX12_keeps_22 : decode cX12_keeps 22 = .ok (.iadd, 1) := by decide +kernel
theorem dX12_keeps_23 : decode cX12_keeps 23 = .ok (.imul, 1) := by decide +kernel
theorem dX12_keeps_24 : decode cX12_keeps 24 = .ok (.bipush 66, 2) := by decide +kernel
theorem dX12_keeps_26 : decode cX12_keeps 26 = .ok (.iconst 5, 1) := by decide +kernel
theorem dX12_keeps_27 : decode cX12_keeps 27 = .ok (.iload_n 1, 1) := by decide +kernel
theorem dX12_keeps_28 : decode cX12_keeps 28 = .ok (.iadd, 1) := by decide +kernel
theorem dX12_keeps_29 : decode cX12_keeps 29 = .ok (.iconst 1, 1) := by decide +kernel
theorem dX12_keeps_30 : decode cX12_keeps 30 = .ok (.isub, 1) := by decide +kernel
theorem dX12_keeps_31 : decode cX12_keeps 31 = .ok (.imul, 1) := by decide +kernel
theorem dX12_keeps_32 : decode cX12_keeps 32 = .ok (.bipush 60, 2) := by decide +kernel
theorem dX12_keeps_34 : decode cX12_keeps 34 = .ok (.invokevirtual 275, 3) := by decide +kernel
theorem dX12_keeps_37 : decode cX12_keeps 37 = .ok (.iinc 1 1, 3) := by decide +kernel
theorem dX12_keeps_40 : decode cX12_keeps 40 = .ok (.goto (-29), 3) := by decide +kernel
theorem dX12_keeps_43 : decode cX12_keeps 43 = .ok (.aload_n 0, 1) := by decide +kernel
theorem dX12_keeps_44 : decode cX12_keeps 44 = .ok (.dup, 1) := by decide +kernel
theorem dX12_keeps_45 : decode cX12_keeps 45 = .ok (.getfield 272, 3) := by decide +kernel
theorem dX12_keeps_48 : decode cX12_keeps 48 = .ok (.iconst 1, 1) := by decide +kernel
theorem dX12_keeps_49 : decode cX12_keeps 49 = .ok (.isub, 1) := by decide +kernel
theorem dX12_keeps_50 : decode cX12_keeps 50 = .ok (.putfield 272, 3) := by decide +kernel
theorem dX12_keeps_53 : decode cX12_keeps 53 = .ok (.aload_n 0, 1) := by decide +kernel
theorem dX12_keeps_54 : decode cX12_keeps 54 = .ok (.iconst 0, 1) := by decide +kernel
theorem dX12_keeps_55 : decode cX12_keeps 55 = .ok (.bipush 66, 2) := by decide +kernel
theorem dX12_keeps_57 : decode cX12_keeps 57 = .ok (.iconst 5, 1) := by decide +kernel
theorem dX12_keeps_58 : decode cX12_keeps 58 = .ok (.aload_n 0, 1) := by decide +kernel
theorem dX12_keeps_59 : decode cX12_keeps 59 = .ok (.getfield 272, 3) := by decide +kernel
theorem dX12_keeps_62 : decode cX12_keeps 62 = .ok (.iadd, 1) := by decide +kernel
theorem dX12_keeps_63 : decode cX12_keeps 63 = .ok (.imul, 1) := by decide +kernel
theorem dX12_keeps_64 : decode cX12_keeps 64 = .ok (.bipush 60, 2) := by decide +kernel
theorem dX12_keeps_66 : decode cX12_keeps 66 = .ok (.invokevirtual 275, 3) := by decide +kernel
theorem dX12_keeps_69 : decode cX12_keeps 69 = .ok (.aload_n 0, 1) := by decide +kernel
theorem dX12_keeps_70 : decode cX12_keeps 70 = .ok (.dup, 1) := by decide +kernel
theorem dX12_keeps_71 : decode cX12_keeps 71 = .ok (.getfield 272, 3) := by decide +kernel
theorem dX12_keeps_74 : decode cX12_keeps 74 = .ok (.iconst 1, 1) := by decide +kernel
theorem dX12_keeps_75 : decode cX12_keeps 75 = .ok (.iadd, 1) := by decide +kernel
theorem dX12_keeps_76 : decode cX12_keeps 76 = .ok (.putfield 272, 3) := by decide +kernel
theorem dX12_keeps_79 : decode cX12_keeps 79 = .ok (.return_, 1) := by decide +kernel
theorem dX12_panes_0 : decode cX12_panes 0 = .ok (.aload_n 0, 1) := by decide +kernel
theorem dX12_panes_1 : decode cX12_panes 1 = .ok (.getfield 89, 3) := by decide +kernel
theorem dX12_panes_4 : decode cX12_panes 4 = .ok (.iconst 0, 1) := by decide +kernel
theorem dX12_panes_5 : decode cX12_panes 5 = .ok (.iaload, 1) := by decide +kernel
theorem dX12_panes_6 : decode cX12_panes 6 = .ok (.ireturn, 1) := by decide +kernel
theorem dX12_people_0 : decode cX12_people 0 = .ok (.aload_n 0, 1) := by decide +kernel
theorem dX12_people_1 : decode cX12_people 1 = .ok (.getfield 89, 3) := by decide +kernel
theorem dX12_people_4 : decode cX12_people 4 = .ok (.iconst 1, 1) := by decide +kernel
theorem dX12_people_5 : decode cX12_people 5 = .ok (.iaload, 1) := by decide +kernel
theorem dX12_people_6 : decode cX12_people 6 = .ok (.ireturn, 1) := by decide +kernel
theorem dX12_deeds_0 : decode cX12_deeds 0 = .ok (.aload_n 0, 1) := by decide +kernel
theorem dX12_deeds_1 : decode cX12_deeds 1 = .ok (.getfield 89, 3) := by decide +kernel
theorem dX12_deeds_4 : decode cX12_deeds 4 = .ok (.iconst 2, 1) := by decide +kernel
theorem dX12_deeds_5 : decode cX12_deeds 5 = .ok (.iaload, 1) := by decide +kernel
theorem dX12_deeds_6 : decode cX12_deeds 6 = .ok (.ireturn, 1) := by decide +kernel
theorem dX12_paneOf_0 : decode cX12_paneOf 0 = .ok (.aload_n 0, 1) := by decide +kernel
theorem dX12_paneOf_1 : decode cX12_paneOf 1 = .ok (.getfield 89, 3) := by decide +kernel
theorem dX12_paneOf_4 : decode cX12_paneOf 4 = .ok (.iconst 5, 1) := by decide +kernel
theorem dX12_paneOf_5 : decode cX12_paneOf 5 = .ok (.iconst 3, 1) := by decide +kernel
theorem dX12_paneOf_6 : decode cX12_paneOf 6 = .ok (.iload_n 1, 1) := by decide +kernel
theorem dX12_paneOf_7 : decode cX12_paneOf 7 = .ok (.imul, 1) := by decide +kernel
theorem dX12_paneOf_8 : decode cX12_paneOf 8 = .ok (.iadd, 1) := by decide +kernel
theorem dX12_paneOf_9 : decode cX12_paneOf 9 = .ok (.iload_n 2, 1) := by decide +kernel
theorem dX12_paneOf_10 : decode cX12_paneOf 10 = .ok (.iadd, 1) := by decide +kernel
theorem dX12_paneOf_11 : decode cX12_paneOf 11 = .ok (.iaload, 1) := by decide +kernel
theorem dX12_paneOf_12 : decode cX12_paneOf 12 = .ok (.ireturn, 1) := by decide +kernel
theorem dX12_isPane_0 : decode cX12_isPane 0 = .ok (.iload_n 1, 1) := by decide +kernel
theorem dX12_isPane_1 : decode cX12_isPane 1 = .ok (.ifCond .lt 15, 3) := by decide +kernel
theorem dX12_isPane_4 : decode cX12_isPane 4 = .ok (.iload_n 1, 1) := by decide +kernel
theorem dX12_isPane_5 : decode cX12_isPane 5 = .ok (.aload_n 0, 1) := by decide +kernel
theorem dX12_isPane_6 : decode cX12_isPane 6 = .ok (.invokevirtual 278, 3) := by decide +kernel
theorem dX12_isPane_9 : decode cX12_isPane 9 = .ok (.if_icmp .ge 7, 3) := by decide +kernel
theorem dX12_isPane_12 : decode cX12_isPane 12 = .ok (.iconst 1, 1) := by decide +kernel
theorem dX12_isPane_13 : decode cX12_isPane 13 = .ok (.goto 4, 3) := by decide +kernel
theorem dX12_isPane_16 : decode cX12_isPane 16 = .ok (.iconst 0, 1) := by decide +kernel
theorem dX12_isPane_17 : decode cX12_isPane 17 = .ok (.ireturn, 1) := by decide +kernel
theorem dX12_isPerson_0 : decode cX12_isPerson 0 = .ok (.iload_n 1, 1) := by decide +kernel
theorem dX12_isPerson_1 : decode cX12_isPerson 1 = .ok (.ifCond .lt 15, 3) := by decide +kernel
theorem dX12_isPerson_4 : decode cX12_isPerson 4 = .ok (.iload_n 1, 1) := by decide +kernel
theorem dX12_isPerson_5 : decode cX12_isPerson 5 = .ok (.aload_n 0, 1) := by decide +kernel
theorem dX12_isPerson_6 : decode cX12_isPerson 6 = .ok (.invokevirtual 265, 3) := by decide +kernel
theorem dX12_isPerson_9 : decode cX12_isPerson 9 = .ok (.if_icmp .ge 7, 3) := by decide +kernel
theorem dX12_isPerson_12 : decode cX12_isPerson 12 = .ok (.iconst 1, 1) := by decide +kernel
theorem dX12_isPerson_13 : decode cX12_isPerson 13 = .ok (.goto 4, 3) := by decide +kernel
theorem dX12_isPerson_16 : decode cX12_isPerson 16 = .ok (.iconst 0, 1) := by decide +kernel
theorem dX12_isPerson_17 : decode cX12_isPerson 17 = .ok (.ireturn, 1) := by decide +kernel
theorem dX12_isDeed_0 : decode cX12_isDeed 0 = .ok (.iload_n 1, 1) := by decide +kernel
theorem dX12_isDeed_1 : decode cX12_isDeed 1 = .ok (.ifCond .lt 15, 3) := by decide +kernel
theorem dX12_isDeed_4 : decode cX12_isDeed 4 = .ok (.iload_n 1, 1) := by decide +kernel
theorem dX12_isDeed_5 : decode cX12_isDeed 5 = .ok (.aload_n 0, 1) := by decide +kernel
theorem dX12_isDeed_6 : decode cX12_isDeed 6 = .ok (.invokevirtual 281, 3) := by decide +kernel
theorem dX12_isDeed_9 : decode cX12_isDeed 9 = .ok (.if_icmp .ge 7, 3) := by decide +kernel
theorem dX12_isDeed_12 : decode cX12_isDeed 12 = .ok (.iconst 1, 1) := by decide +kernel
theorem dX12_isDeed_13 : decode cX12_isDeed 13 = .ok (.goto 4, 3) := by decide +kernel
theorem dX12_isDeed_16 : decode cX12_isDeed 16 = .ok (.iconst 0, 1) := by decide +kernel
theorem dX12_isDeed_17 : decode cX12_isDeed 17 = .ok (.ireturn, 1) := by decide +kernel
theorem dX12_lightOf_0 : decode cX12_lightOf 0 = .ok (.aload_n 0, 1) := by decide +kernel
theorem dX12_lightOf_1 : decode cX12_lightOf 1 = .ok (.getfield 89, 3) := by decide +kernel
theorem dX12_lightOf_4 : decode cX12_lightOf 4 = .ok (.bipush 33, 2) := by decide +kernel
theorem dX12_lightOf_6 : decode cX12_lightOf 6 = .ok (.iload_n 1, 1) := by decide +kernel
theorem dX12_lightOf_7 : decode cX12_lightOf 7 = .ok (.aload_n 0, 1) := by decide +kernel
theorem dX12_lightOf_8 : decode cX12_lightOf 8 = .ok (.getfield 89, 3) := by decide +kernel
theorem dX12_lightOf_11 : decode cX12_lightOf 11 = .ok (.iconst 3, 1) := by decide +kernel
theorem dX12_lightOf_12 : decode cX12_lightOf 12 = .ok (.iaload, 1) := by decide +kernel
theorem dX12_lightOf_13 : decode cX12_lightOf 13 = .ok (.irem, 1) := by decide +kernel
theorem dX12_lightOf_14 : decode cX12_lightOf 14 = .ok (.iadd, 1) := by decide +kernel
theorem dX12_lightOf_15 : decode cX12_lightOf 15 = .ok (.iaload, 1) := by decide +kernel
theorem dX12_lightOf_16 : decode cX12_lightOf 16 = .ok (.ireturn, 1) := by decide +kernel
theorem dX12_isWhole_0 : decode cX12_isWhole 0 = .ok (.aload_n 0, 1) := by decide +kernel
theorem dX12_isWhole_1 : decode cX12_isWhole 1 = .ok (.getfield 119, 3) := by decide +kernel
theorem dX12_isWhole_4 : decode cX12_isWhole 4 = .ok (.iload_n 1, 1) := by decide +kernel
theorem dX12_isWhole_5 : decode cX12_isWhole 5 = .ok (.bipush 12, 2) := by decide +kernel
theorem dX12_isWhole_7 : decode cX12_isWhole 7 = .ok (.iadd, 1) := by decide +kernel
theorem dX12_isWhole_8 : decode cX12_isWhole 8 = .ok (.iload_n 2, 1) := by decide +kernel
theorem dX12_isWhole_9 : decode cX12_isWhole 9 = .ok (.iadd, 1) := by decide +kernel
theorem dX12_isWhole_10 : decode cX12_isWhole 10 = .ok (.iaload, 1) := by decide +kernel
theorem dX12_isWhole_11 : decode cX12_isWhole 11 = .ok (.ifCond .ne 7, 3) := by decide +kernel
theorem dX12_isWhole_14 : decode cX12_isWhole 14 = .ok (.iconst 1, 1) := by decide +kernel
theorem dX12_isWhole_15 : decode cX12_isWhole 15 = .ok (.goto 4, 3) := by decide +kernel
theorem dX12_isWhole_18 : decode cX12_isWhole 18 = .ok (.iconst 0, 1) := by decide +kernel
theorem dX12_isWhole_19 : decode cX12_isWhole 19 = .ok (.ireturn, 1) := by decide +kernel
theorem dX12_sightOf_0 : decode cX12_sightOf 0 = .ok (.aload_n 0, 1) := by decide +kernel
theorem dX12_sightOf_1 : decode cX12_sightOf 1 = .ok (.iload_n 2, 1) := by decide +kernel
theorem dX12_sightOf_2 : decode cX12_sightOf 2 = .ok (.iconst 2, 1) := by decide +kernel
theorem dX12_sightOf_3 : decode cX12_sightOf 3 = .ok (.invokevirtual 284, 3) := by decide +kernel
theorem dX12_sightOf_6 : decode cX12_sightOf 6 = .ok (.istore_n 3, 1) := by decide +kernel
theorem dX12_sightOf_7 : decode cX12_sightOf 7 = .ok (.iconst 0, 1) := by decide +kernel
theorem dX12_sightOf_8 : decode cX12_sightOf 8 = .ok (.istore 4, 2) := by decide +kernel
theorem dX12_sightOf_10 : decode cX12_sightOf 10 = .ok (.iconst 0, 1) := by decide +kernel
theorem dX12_sightOf_11 : decode cX12_sightOf 11 = .ok (.istore 5, 2) := by decide +kernel
theorem dX12_sightOf_13 : decode cX12_sightOf 13 = .ok (.iload 5, 2) := by decide +kernel
theorem dX12_sightOf_15 : decode cX12_sightOf 15 = .ok (.bipush 10, 2) := by decide +kernel
theorem dX12_sightOf_17 : decode cX12_sightOf 17 = .ok (.if_icmp .ge 26, 3) := by decide +kernel
theorem dX12_sightOf_20 : decode cX12_sightOf 20 = .ok (.iload 4, 2) := by decide +kernel
theorem dX12_sightOf_22 : decode cX12_sightOf 22 = .ok (.iload_n 3, 1) := by decide +kernel
theorem dX12_sightOf_23 : decode cX12_sightOf 23 = .ok (.iload 5, 2) := by decide +kernel
theorem dX12_sightOf_25 : decode cX12_sightOf 25 = .ok (.ishr, 1) := by decide +kernel
theorem dX12_sightOf_26 : decode cX12_sightOf 26 = .ok (.iconst 1, 1) := by decide +kernel
theorem dX12_sightOf_27 : decode cX12_sightOf 27 = .ok (.iand, 1) := by decide +kernel
theorem dX12_sightOf_28 : decode cX12_sightOf 28 = .ok (.bipush 9, 2) := by decide +kernel
theorem dX12_sightOf_30 : decode cX12_sightOf 30 = .ok (.iload 5, 2) := by decide +kernel
theorem dX12_sightOf_32 : decode cX12_sightOf 32 = .ok (.isub, 1) := by decide +kernel
theorem dX12_sightOf_33 : decode cX12_sightOf 33 = .ok (.ishl, 1) := by decide +kernel
theorem dX12_sightOf_34 : decode cX12_sightOf 34 = .ok (.ior, 1) := by decide +kernel
theorem dX12_sightOf_35 : decode cX12_sightOf 35 = .ok (.istore 4, 2) := by decide +kernel
theorem dX12_sightOf_37 : decode cX12_sightOf 37 = .ok (.iinc 5 1, 3) := by decide +kernel
theorem dX12_sightOf_40 : decode cX12_sightOf 40 = .ok (.goto (-27), 3) := by decide +kernel
theorem dX12_sightOf_43 : decode cX12_sightOf 43 = .ok (.iload_n 3, 1) := by decide +kernel
theorem dX12_sightOf_44 : decode cX12_sightOf 44 = .ok (.aload_n 0, 1) := by decide +kernel
theorem dX12_sightOf_45 : decode cX12_sightOf 45 = .ok (.iload_n 2, 1) := by decide +kernel
theorem dX12_sightOf_46 : decode cX12_sightOf 46 = .ok (.iconst 0, 1) := by decide +kernel
theorem dX12_sightOf_47 : decode cX12_sightOf 47 = .ok (.invokevirtual 284, 3) := by decide +kernel
theorem dX12_sightOf_50 : decode cX12_sightOf 50 = .ok (.iconst 3, 1) := by decide +kernel
theorem dX12_sightOf_51 : decode cX12_sightOf 51 = .ok (.if_icmp .ne 8, 3) := by decide +kernel
theorem dX12_sightOf_54 : decode cX12_sightOf 54 = .ok (.iload 4, 2) := by decide +kernel
theorem dX12_sightOf_56 : decode cX12_sightOf 56 = .ok (.goto 4, 3) := by decide +kernel
theorem dX12_sightOf_59 : decode cX12_sightOf 59 = .ok (.iconst 0, 1) := by decide +kernel
theorem dX12_sightOf_60 : decode cX12_sightOf 60 = .ok (.ior, 1) := by decide +kernel
theorem dX12_sightOf_61 : decode cX12_sightOf 61 = .ok (.istore_n 3, 1) := by decide +kernel
theorem dX12_sightOf_62 : decode cX12_sightOf 62 = .ok (.aload_n 0, 1) := by decide +kernel
theorem dX12_sightOf_63 : decode cX12_sightOf 63 = .ok (.iload_n 1, 1) := by decide +kernel
theorem dX12_sightOf_64 : decode cX12_sightOf 64 = .ok (.iload_n 2, 1) := by decide +kernel
theorem dX12_sightOf_65 : decode cX12_sightOf 65 = .ok (.invokevirtual 287, 3) := by decide +kernel
theorem dX12_sightOf_68 : decode cX12_sightOf 68 = .ok (.ifCond .eq 47, 3) := by decide +kernel
theorem dX12_sightOf_71 : decode cX12_sightOf 71 = .ok (.aload_n 0, 1) := by decide +kernel
theorem dX12_sightOf_72 : decode cX12_sightOf 72 = .ok (.getfield 119, 3) := by decide +kernel
theorem dX12_sightOf_75 : decode cX12_sightOf 75 = .ok (.iload_n 1, 1) := by decide +kernel
theorem dX12_sightOf_76 : decode cX12_sightOf 76 = .ok (.bipush 6, 2) := by decide +kernel
theorem dX12_sightOf_78 : decode cX12_sightOf 78 = .ok (.iadd, 1) := by decide +kernel
theorem dX12_sightOf_79 : decode cX12_sightOf 79 = .ok (.iload_n 2, 1) := by decide +kernel
theorem dX12_sightOf_80 : decode cX12_sightOf 80 = .ok (.iadd, 1) := by decide +kernel
theorem dX12_sightOf_81 : decode cX12_sightOf 81 = .ok (.iaload, 1) := by decide +kernel
theorem dX12_sightOf_82 : decode cX12_sightOf 82 = .ok (.ifCond .ne 33, 3) := by decide +kernel
theorem dX12_sightOf_85 : decode cX12_sightOf 85 = .ok (.aload_n 0, 1) := by decide +kernel
theorem dX12_sightOf_86 : decode cX12_sightOf 86 = .ok (.iload_n 2, 1) := by decide +kernel
theorem dX12_sightOf_87 : decode cX12_sightOf 87 = .ok (.iconst 0, 1) := by decide +kernel
theorem dX12_sightOf_88 : decode cX12_sightOf 88 = .ok (.invokevirtual 284, 3) := by decide +kernel
theorem dX12_sightOf_91 : decode cX12_sightOf 91 = .ok (.iconst 2, 1) := by decide +kernel
theorem dX12_sightOf_92 : decode cX12_sightOf 92 = .ok (.if_icmp .ne 19, 3) := by decide +kernel
theorem dX12_sightOf_95 : decode cX12_sightOf 95 = .ok (.aload_n 0, 1) := by decide +kernel
theorem dX12_sightOf_96 : decode cX12_sightOf 96 = .ok (.aload_n 0, 1) := by decide +kernel
theorem dX12_sightOf_97 : decode cX12_sightOf 97 = .ok (.getfield 119, 3) := by decide +kernel
theorem dX12_sightOf_100 : decode cX12_sightOf 100 = .ok (.iload_n 1, 1) := by decide +kernel
theorem dX12_sightOf_101 : decode cX12_sightOf 101 = .ok (.iconst 0, 1) := by decide +kernel
theorem dX12_sightOf_102 : decode cX12_sightOf 102 = .ok (.iadd, 1) := by decide +kernel
theorem dX12_sightOf_103 : decode cX12_sightOf 103 = .ok (.iaload, 1) := by decide +kernel
theorem dX12_sightOf_104 : decode cX12_sightOf 104 = .ok (.invokevirtual 291, 3) := by decide +kernel
theorem dX12_sightOf_107 : decode cX12_sightOf 107 = .ok (.iconst 1, 1) := by decide +kernel
theorem dX12_sightOf_108 : decode cX12_sightOf 108 = .ok (.if_icmp .ne 7, 3) := by decide +kernel
theorem dX12_sightOf_111 : decode cX12_sightOf 111 = .ok (.iconst 1, 1) := by decide +kernel
theorem dX12_sightOf_112 : decode cX12_sightOf 112 = .ok (.goto 4, 3) := by decide +kernel
theorem dX12_sightOf_115 : decode cX12_sightOf 115 = .ok (.iconst 0, 1) := by decide +kernel
theorem dX12_sightOf_116 : decode cX12_sightOf 116 = .ok (.istore 5, 2) := by decide +kernel
theorem dX12_sightOf_118 : decode cX12_sightOf 118 = .ok (.iload 5, 2) := by decide +kernel
theorem dX12_sightOf_120 : decode cX12_sightOf 120 = .ok (.ifCond .eq 7, 3) := by decide +kernel
theorem dX12_sightOf_123 : decode cX12_sightOf 123 = .ok (.iload_n 3, 1) := by decide +kernel
theorem dX12_sightOf_124 : decode cX12_sightOf 124 = .ok (.goto 4, 3) := by decide +kernel
theorem dX12_sightOf_127 : decode cX12_sightOf 127 = .ok (.iconst 0, 1) := by decide +kernel
theorem dX12_sightOf_128 : decode cX12_sightOf 128 = .ok (.ireturn, 1) := by decide +kernel
theorem dX12_doesSee_0 : decode cX12_doesSee 0 = .ok (.aload_n 0, 1) := by decide +kernel
theorem dX12_doesSee_1 : decode cX12_doesSee 1 = .ok (.iload_n 1, 1) := by decide +kernel
theorem dX12_doesSee_2 : decode cX12_doesSee 2 = .ok (.iload_n 2, 1) := by decide +kernel
theorem dX12_doesSee_3 : decode cX12_doesSee 3 = .ok (.invokevirtual 294, 3) := by decide +kernel
theorem dX12_doesSee_6 : decode cX12_doesSee 6 = .ok (.iload_n 3, 1) := by decide +kernel
theorem dX12_doesSee_7 : decode cX12_doesSee 7 = .ok (.ishr, 1) := by decide +kernel
theorem dX12_doesSee_8 : decode cX12_doesSee 8 = .ok (.iconst 1, 1) := by decide +kernel
theorem dX12_doesSee_9 : decode cX12_doesSee 9 = .ok (.iand, 1) := by decide +kernel
theorem dX12_doesSee_10 : decode cX12_doesSee 10 = .ok (.iconst 1, 1) := by decide +kernel
theorem dX12_doesSee_11 : decode cX12_doesSee 11 = .ok (.if_icmp .ne 7, 3) := by decide +kernel
theorem dX12_doesSee_14 : decode cX12_doesSee 14 = .ok (.iconst 1, 1) := by decide +kernel
theorem dX12_doesSee_15 : decode cX12_doesSee 15 = .ok (.goto 4, 3) := by decide +kernel
theorem dX12_doesSee_18 : decode cX12_doesSee 18 = .ok (.iconst 0, 1) := by decide +kernel
theorem dX12_doesSee_19 : decode cX12_doesSee 19 = .ok (.ireturn, 1) := by decide +kernel
theorem dX12_seersOf_0 : decode cX12_seersOf 0 = .ok (.iconst 0, 1) := by decide +kernel
theorem dX12_seersOf_1 : decode cX12_seersOf 1 = .ok (.istore_n 3, 1) := by decide +kernel
theorem dX12_seersOf_2 : decode cX12_seersOf 2 = .ok (.iconst 0, 1) := by decide +kernel
theorem dX12_seersOf_3 : decode cX12_seersOf 3 = .ok (.istore 4, 2) := by decide +kernel
theorem dX12_seersOf_5 : decode cX12_seersOf 5 = .ok (.iload 4, 2) := by decide +kernel
theorem dX12_seersOf_7 : decode cX12_seersOf 7 = .ok (.aload_n 0, 1) := by decide +kernel
theorem dX12_seersOf_8 : decode cX12_seersOf 8 = .ok (.invokevirtual 278, 3) := by decide +kernel
theorem dX12_seersOf_11 : decode cX12_seersOf 11 = .ok (.if_icmp .ge 31, 3) := by decide +kernel
theorem dX12_seersOf_14 : decode cX12_seersOf 14 = .ok (.iload_n 3, 1) := by decide +kernel
theorem dX12_seersOf_15 : decode cX12_seersOf 15 = .ok (.aload_n 0, 1) := by decide +kernel
theorem dX12_seersOf_16 : decode cX12_seersOf 16 = .ok (.iload_n 1, 1) := by decide +kernel
theorem dX12_seersOf_17 : decode cX12_seersOf 17 = .ok (.iload 4, 2) := by decide +kernel
theorem dX12_seersOf_19 : decode cX12_seersOf 19 = .ok (.iload_n 2, 1) := by decide +kernel
theorem dX12_seersOf_20 : decode cX12_seersOf 20 = .ok (.invokevirtual 297, 3) := by decide +kernel
theorem dX12_seersOf_23 : decode cX12_seersOf 23 = .ok (.ifCond .eq 10, 3) := by decide +kernel
theorem dX12_seersOf_26 : decode cX12_seersOf 26 = .ok (.iconst 1, 1) := by decide +kernel
theorem dX12_seersOf_27 : decode cX12_seersOf 27 = .ok (.iload 4, 2) := by decide +kernel
theorem dX12_seersOf_29 : decode cX12_seersOf 29 = .ok (.ishl, 1) := by decide +kernel
theorem dX12_seersOf_30 : decode cX12_seersOf 30 = .ok (.goto 4, 3) := by decide +kernel
theorem dX12_seersOf_33 : decode cX12_seersOf 33 = .ok (.iconst 0, 1) := by decide +kernel
theorem dX12_seersOf_34 : decode cX12_seersOf 34 = .ok (.ior, 1) := by decide +kernel
theorem dX12_seersOf_35 : decode cX12_seersOf 35 = .ok (.istore_n 3, 1) := by decide +kernel
theorem dX12_seersOf_36 : decode cX12_seersOf 36 = .ok (.iinc 4 1, 3) := by decide +kernel
theorem dX12_seersOf_39 : decode cX12_seersOf 39 = .ok (.goto (-34), 3) := by decide +kernel
theorem dX12_seersOf_42 : decode cX12_seersOf 42 = .ok (.iload_n 3, 1) := by decide +kernel
theorem dX12_seersOf_43 : decode cX12_seersOf 43 = .ok (.ireturn, 1) := by decide +kernel
theorem dX12_markOf_0 : decode cX12_markOf 0 = .ok (.aload_n 0, 1) := by decide +kernel
theorem dX12_markOf_1 : decode cX12_markOf 1 = .ok (.getfield 119, 3) := by decide +kernel
theorem dX12_markOf_4 : decode cX12_markOf 4 = .ok (.iload_n 1, 1) := by decide +kernel
theorem dX12_markOf_5 : decode cX12_markOf 5 = .ok (.bipush 24, 2) := by decide +kernel
theorem dX12_markOf_7 : decode cX12_markOf 7 = .ok (.iadd, 1) := by decide +kernel
theorem dX12_markOf_8 : decode cX12_markOf 8 = .ok (.bipush 6, 2) := by decide +kernel
theorem dX12_markOf_10 : decode cX12_markOf 10 = .ok (.iload_n 2, 1) := by decide +kernel
theorem dX12_markOf_11 : decode cX12_markOf 11 = .ok (.imul, 1) := by decide +kernel
theorem dX12_markOf_12 : decode cX12_markOf 12 = .ok (.iadd, 1) := by decide +kernel
theorem dX12_markOf_13 : decode cX12_markOf 13 = .ok (.iload_n 3, 1) := by decide +kernel
theorem dX12_markOf_14 : decode cX12_markOf 14 = .ok (.iadd, 1) := by decide +kernel
theorem dX12_markOf_15 : decode cX12_markOf 15 = .ok (.iaload, 1) := by decide +kernel
theorem dX12_markOf_16 : decode cX12_markOf 16 = .ok (.ireturn, 1) := by decide +kernel
theorem dX12_whoOf_0 : decode cX12_whoOf 0 = .ok (.iload_n 0, 1) := by decide +kernel
theorem dX12_whoOf_1 : decode cX12_whoOf 1 = .ok (.bipush 7, 2) := by decide +kernel
theorem dX12_whoOf_3 : decode cX12_whoOf 3 = .ok (.iand, 1) := by decide +kernel
theorem dX12_whoOf_4 : decode cX12_whoOf 4 = .ok (.ireturn, 1) := by decide +kernel
theorem dX12_deedOf_0 : decode cX12_deedOf 0 = .ok (.iload_n 0, 1) := by decide +kernel
theorem dX12_deedOf_1 : decode cX12_deedOf 1 = .ok (.iconst 3, 1) := by decide +kernel
theorem dX12_deedOf_2 : decode cX12_deedOf 2 = .ok (.ishr, 1) := by decide +kernel
theorem dX12_deedOf_3 : decode cX12_deedOf 3 = .ok (.bipush 7, 2) := by decide +kernel
theorem dX12_deedOf_5 : decode cX12_deedOf 5 = .ok (.iand, 1) := by decide +kernel
theorem dX12_deedOf_6 : decode cX12_deedOf 6 = .ok (.ireturn, 1) := by decide +kernel
theorem dX12_cellOf_0 : decode cX12_cellOf 0 = .ok (.iload_n 0, 1) := by decide +kernel
theorem dX12_cellOf_1 : decode cX12_cellOf 1 = .ok (.bipush 6, 2) := by decide +kernel
theorem dX12_cellOf_3 : decode cX12_cellOf 3 = .ok (.ishr, 1) := by decide +kernel
theorem dX12_cellOf_4 : decode cX12_cellOf 4 = .ok (.bipush 15, 2) := by decide +kernel
theorem dX12_cellOf_6 : decode cX12_cellOf 6 = .ok (.iand, 1) := by decide +kernel
theorem dX12_cellOf_7 : decode cX12_cellOf 7 = .ok (.ireturn, 1) := by decide +kernel
theorem dX12_ageOf_0 : decode cX12_ageOf 0 = .ok (.iload_n 0, 1) := by decide +kernel
theorem dX12_ageOf_1 : decode cX12_ageOf 1 = .ok (.bipush 10, 2) := by decide +kernel
theorem dX12_ageOf_3 : decode cX12_ageOf 3 = .ok (.ishr, 1) := by decide +kernel
theorem dX12_ageOf_4 : decode cX12_ageOf 4 = .ok (.ireturn, 1) := by decide +kernel
theorem dX12_forgets_0 : decode cX12_forgets 0 = .ok (.aload_n 0, 1) := by decide +kernel
theorem dX12_forgets_1 : decode cX12_forgets 1 = .ok (.getfield 119, 3) := by decide +kernel
theorem dX12_forgets_4 : decode cX12_forgets 4 = .ok (.iload_n 1, 1) := by decide +kernel
theorem dX12_forgets_5 : decode cX12_forgets 5 = .ok (.bipush 18, 2) := by decide +kernel
theorem dX12_forgets_7 : decode cX12_forgets 7 = .ok (.iadd, 1) := by decide +kernel
theorem dX12_forgets_8 : decode cX12_forgets 8 = .ok (.iload_n 2, 1) := by decide +kernel
theorem dX12_forgets_9 : decode cX12_forgets 9 = .ok (.iadd, 1) := by decide +kernel
theorem dX12_forgets_10 : decode cX12_forgets 10 = .ok (.dup2, 1) := by decide +kernel
theorem dX12_forgets_11 : decode cX12_forgets 11 = .ok (.iaload, 1) := by decide +kernel
theorem dX12_forgets_12 : decode cX12_forgets 12 = .ok (.iconst 1, 1) := by decide +kernel
theorem dX12_forgets_13 : decode cX12_forgets 13 = .ok (.isub, 1) := by decide +kernel
theorem dX12_forgets_14 : decode cX12_forgets 14 = .ok (.iastore, 1) := by decide +kernel
theorem dX12_forgets_15 : decode cX12_forgets 15 = .ok (.iload_n 3, 1) := by decide +kernel
theorem dX12_forgets_16 : decode cX12_forgets 16 = .ok (.istore 4, 2) := by decide +kernel
theorem dX12_forgets_18 : decode cX12_forgets 18 = .ok (.iload 4, 2) := by decide +kernel
theorem dX12_forgets_20 : decode cX12_forgets 20 = .ok (.aload_n 0, 1) := by decide +kernel
theorem dX12_forgets_21 : decode cX12_forgets 21 = .ok (.getfield 119, 3) := by decide +kernel
theorem dX12_forgets_24 : decode cX12_forgets 24 = .ok (.iload_n 1, 1) := by decide +kernel
theorem dX12_forgets_25 : decode cX12_forgets 25 = .ok (.bipush 18, 2) := by decide +kernel
theorem dX12_forgets_27 : decode cX12_forgets 27 = .ok (.iadd, 1) := by decide +kernel
theorem dX12_forgets_28 : decode cX12_forgets 28 = .ok (.iload_n 2, 1) := by decide +kernel
theorem dX12_forgets_29 : decode cX12_forgets 29 = .ok (.iadd, 1) := by decide +kernel
theorem dX12_forgets_30 : decode cX12_forgets 30 = .ok (.iaload, 1) := by decide +kernel
theorem dX12_forgets_31 : decode cX12_forgets 31 = .ok (.if_icmp .ge 36, 3) := by decide +kernel
theorem dX12_forgets_34 : decode cX12_forgets 34 = .ok (.aload_n 0, 1) := by decide +kernel
theorem dX12_forgets_35 : decode cX12_forgets 35 = .ok (.getfield 119, 3) := by decide +kernel
theorem dX12_forgets_38 : decode cX12_forgets 38 = .ok (.iload_n 1, 1) := by decide +kernel
theorem dX12_forgets_39 : decode cX12_forgets 39 = .ok (.bipush 24, 2) := by decide +kernel
theorem dX12_forgets_41 : decode cX12_forgets 41 = .ok (.iadd, 1) := by decide +kernel
theorem dX12_forgets_42 : decode cX12_forgets 42 = .ok (.bipush 6, 2) := by decide +kernel
theorem dX12_forgets_44 : decode cX12_forgets 44 = .ok (.iload_n 2, 1) := by decide +kernel
theorem dX12_forgets_45 : decode cX12_forgets 45 = .ok (.imul, 1) := by decide +kernel
theorem dX12_forgets_46 : decode cX12_forgets 46 = .ok (.iadd, 1) := by decide +kernel
theorem dX12_forgets_47 : decode cX12_forgets 47 = .ok (.iload 4, 2) := by decide +kernel
theorem dX12_forgets_49 : decode cX12_forgets 49 = .ok (.iadd, 1) := by decide +kernel
theorem dX12_forgets_50 : decode cX12_forgets 50 = .ok (.aload_n 0, 1) := by decide +kernel
theorem dX12_forgets_51 : decode cX12_forgets 51 = .ok (.iload_n 1, 1) := by decide +kernel
theorem dX12_forgets_52 : decode cX12_forgets 52 = .ok (.iload_n 2, 1) := by decide +kernel
theorem dX12_forgets_53 : decode cX12_forgets 53 = .ok (.iload 4, 2) := by decide +kernel
theorem dX12_forgets_55 : decode cX12_forgets 55 = .ok (.iconst 1, 1) := by decide +kernel
theorem dX12_forgets_56 : decode cX12_forgets 56 = .ok (.iadd, 1) := by decide +kernel
theorem dX12_forgets_57 : decode cX12_forgets 57 = .ok (.invokevirtual 300, 3) := by decide +kernel
theorem dX12_forgets_60 : decode cX12_forgets 60 = .ok (.iastore, 1) := by decide +kernel
theorem dX12_forgets_61 : decode cX12_forgets 61 = .ok (.iinc 4 1, 3) := by decide +kernel
theorem dX12_forgets_64 : decode cX12_forgets 64 = .ok (.goto (-46), 3) := by decide +kernel
theorem dX12_forgets_67 : decode cX12_forgets 67 = .ok (.return_, 1) := by decide +kernel
theorem dX12_does_0 : decode cX12_does 0 = .ok (.aload_n 0, 1) := by decide +kernel
theorem dX12_does_1 : decode cX12_does 1 = .ok (.iload_n 1, 1) := by decide +kernel
theorem dX12_does_2 : decode cX12_does 2 = .ok (.iload 4, 2) := by decide +kernel
theorem dX12_does_4 : decode cX12_does 4 = .ok (.invokevirtual 303, 3) := by decide +kernel
theorem dX12_does_7 : decode cX12_does 7 = .ok (.istore 5, 2) := by decide +kernel
theorem dX12_does_9 : decode cX12_does 9 = .ok (.iconst 0, 1) := by decide +kernel
theorem dX12_does_10 : decode cX12_does 10 = .ok (.istore 6, 2) := by decide +kernel
theorem dX12_does_12 : decode cX12_does 12 = .ok (.iload 6, 2) := by decide +kernel
theorem dX12_does_14 : decode cX12_does 14 = .ok (.aload_n 0, 1) := by decide +kernel
theorem dX12_does_15 : decode cX12_does 15 = .ok (.invokevirtual 278, 3) := by decide +kernel
theorem dX12_does_18 : decode cX12_does 18 = .ok (.if_icmp .ge 105, 3) := by decide +kernel
theorem dX12_does_21 : decode cX12_does 21 = .ok (.iload 5, 2) := by decide +kernel
theorem dX12_does_23 : decode cX12_does 23 = .ok (.iload 6, 2) := by decide +kernel
theorem dX12_does_25 : decode cX12_does 25 = .ok (.ishr, 1) := by decide +kernel
theorem dX12_does_26 : decode cX12_does 26 = .ok (.iconst 1, 1) := by decide +kernel
theorem dX12_does_27 : decode cX12_does 27 = .ok (.iand, 1) := by decide +kernel
theorem dX12_does_28 : decode cX12_does 28 = .ok (.iconst 1, 1) := by decide +kernel
theorem dX12_does_29 : decode cX12_does 29 = .ok (.if_icmp .ne 88, 3) := by decide +kernel
theorem dX12_does_32 : decode cX12_does 32 = .ok (.aload_n 0, 1) := by decide +kernel
theorem dX12_does_33 : decode cX12_does 33 = .ok (.getfield 119, 3) := by decide +kernel
theorem dX12_does_36 : decode cX12_does 36 = .ok (.iload_n 1, 1) := by decide +kernel
theorem dX12_does_37 : decode cX12_does 37 = .ok (.bipush 18, 2) := by decide +kernel
theorem dX12_does_39 : decode cX12_does 39 = .ok (.iadd, 1) := by decide +kernel
theorem dX12_does_40 : decode cX12_does 40 = .ok (.iload 6, 2) := by decide +kernel
theorem dX12_does_42 : decode cX12_does 42 = .ok (.iadd, 1) := by decide +kernel
theorem dX12_does_43 : decode cX12_does 43 = .ok (.iaload, 1) := by decide +kernel
theorem dX12_does_44 : decode cX12_does 44 = .ok (.aload_n 0, 1) := by decide +kernel
theorem dX12_does_45 : decode cX12_does 45 = .ok (.iload 6, 2) := by decide +kernel
theorem dX12_does_47 : decode cX12_does 47 = .ok (.iconst 1, 1) := by decide +kernel
theorem dX12_does_48 : decode cX12_does 48 = .ok (.invokevirtual 284, 3) := by decide +kernel
theorem dX12_does_51 : decode cX12_does 51 = .ok (.if_icmp .ne 11, 3) := by decide +kernel
theorem dX12_does_54 : decode cX12_does 54 = .ok (.aload_n 0, 1) := by decide +kernel
theorem dX12_does_55 : decode cX12_does 55 = .ok (.iload_n 1, 1) := by decide +kernel
theorem dX12_does_56 : decode cX12_does 56 = .ok (.iload 6, 2) := by decide +kernel
theorem dX12_does_58 : decode cX12_does 58 = .ok (.iconst 0, 1) := by decide +kernel
theorem dX12_does_59 : decode cX12_does 59 = .ok (.invokevirtual 306, 3) := by decide +kernel
theorem dX12_does_62 : decode cX12_does 62 = .ok (.aload_n 0, 1) := by decide +kernel
theorem dX12_does_63 : decode cX12_does 63 = .ok (.getfield 119, 3) := by decide +kernel
theorem dX12_does_66 : decode cX12_does 66 = .ok (.iload_n 1, 1) := by decide +kernel
theorem dX12_does_67 : decode cX12_does 67 = .ok (.bipush 24, 2) := by decide +kernel
theorem dX12_does_69 : decode cX12_does 69 = .ok (.iadd, 1) := by decide +kernel
theorem dX12_does_70 : decode cX12_does 70 = .ok (.bipush 6, 2) := by decide +kernel
theorem dX12_does_72 : decode cX12_does 72 = .ok (.iload 6, 2) := by decide +kernel
theorem dX12_does_74 : decode cX12_does 74 = .ok (.imul, 1) := by decide +kernel
theorem dX12_does_75 : decode cX12_does 75 = .ok (.iadd, 1) := by decide +kernel
theorem dX12_does_76 : decode cX12_does 76 = .ok (.aload_n 0, 1) := by decide +kernel
theorem dX12_does_77 : decode cX12_does 77 = .ok (.getfield 119, 3) := by decide +kernel
theorem dX12_does_80 : decode cX12_does 80 = .ok (.iload_n 1, 1) := by decide +kernel
theorem dX12_does_81 : decode cX12_does 81 = .ok (.bipush 18, 2) := by decide +kernel
theorem dX12_does_83 : decode cX12_does 83 = .ok (.iadd, 1) := by decide +kernel
theorem dX12_does_84 : decode cX12_does 84 = .ok (.iload 6, 2) := by decide +kernel
theorem dX12_does_86 : decode cX12_does 86 = .ok (.iadd, 1) := by decide +kernel
theorem dX12_does_87 : decode cX12_does 87 = .ok (.iaload, 1) := by decide +kernel
theorem dX12_does_88 : decode cX12_does 88 = .ok (.iadd, 1) := by decide +kernel
theorem dX12_does_89 : decode cX12_does 89 = .ok (.iload 4, 2) := by decide +kernel
theorem dX12_does_91 : decode cX12_does 91 = .ok (.bipush 6, 2) := by decide +kernel
theorem dX12_does_93 : decode cX12_does 93 = .ok (.ishl, 1) := by decide +kernel
theorem dX12_does_94 : decode cX12_does 94 = .ok (.iload_n 3, 1) := by decide +kernel
theorem dX12_does_95 : decode cX12_does 95 = .ok (.iconst 3, 1) := by decide +kernel
theorem dX12_does_96 : decode cX12_does 96 = .ok (.ishl, 1) := by decide +kernel
theorem dX12_does_97 : decode cX12_does 97 = .ok (.ior, 1) := by decide +kernel
theorem dX12_does_98 : decode cX12_does 98 = .ok (.iload_n 2, 1) := by decide +kernel
theorem dX12_does_99 : decode cX12_does 99 = .ok (.ior, 1) := by decide +kernel
theorem dX12_does_100 : decode cX12_does 100 = .ok (.iastore, 1) := by decide +kernel
theorem dX12_does_101 : decode cX12_does 101 = .ok (.aload_n 0, 1) := by decide +kernel
theorem dX12_does_102 : decode cX12_does 102 = .ok (.getfield 119, 3) := by decide +kernel
theorem dX12_does_105 : decode cX12_does 105 = .ok (.iload_n 1, 1) := by decide +kernel
theorem dX12_does_106 : decode cX12_does 106 = .ok (.bipush 18, 2) := by decide +kernel
theorem dX12_does_108 : decode cX12_does 108 = .ok (.iadd, 1) := by decide +kernel
theorem dX12_does_109 : decode cX12_does 109 = .ok (.iload 6, 2) := by decide +kernel
theorem dX12_does_111 : decode cX12_does 111 = .ok (.iadd, 1) := by decide +kernel
theorem dX12_does_112 : decode cX12_does 112 = .ok (.dup2, 1) := by decide +kernel
theorem dX12_does_113 : decode cX12_does 113 = .ok (.iaload, 1) := by decide +kernel
theorem dX12_does_114 : decode cX12_does 114 = .ok (.iconst 1, 1) := by decide +kernel
theorem dX12_does_115 : decode cX12_does 115 = .ok (.iadd, 1) := by decide +kernel
theorem dX12_does_116 : decode cX12_does 116 = .ok (.iastore, 1) := by decide +kernel
theorem dX12_does_117 : decode cX12_does 117 = .ok (.iinc 6 1, 3) := by decide +kernel
theorem dX12_does_120 : decode cX12_does 120 = .ok (.goto (-108), 3) := by decide +kernel
theorem dX12_does_123 : decode cX12_does 123 = .ok (.iload 5, 2) := by decide +kernel
theorem dX12_does_125 : decode cX12_does 125 = .ok (.ireturn, 1) := by decide +kernel
theorem dX12_isFaded_0 : decode cX12_isFaded 0 = .ok (.aload_n 0, 1) := by decide +kernel
theorem dX12_isFaded_1 : decode cX12_isFaded 1 = .ok (.iload_n 1, 1) := by decide +kernel
theorem dX12_isFaded_2 : decode cX12_isFaded 2 = .ok (.iload_n 2, 1) := by decide +kernel
theorem dX12_isFaded_3 : decode cX12_isFaded 3 = .ok (.iload_n 3, 1) := by decide +kernel
theorem dX12_isFaded_4 : decode cX12_isFaded 4 = .ok (.invokevirtual 300, 3) := by decide +kernel
theorem dX12_isFaded_7 : decode cX12_isFaded 7 = .ok (.istore 4, 2) := by decide +kernel
theorem dX12_isFaded_9 : decode cX12_isFaded 9 = .ok (.aload_n 0, 1) := by decide +kernel
theorem dX12_isFaded_10 : decode cX12_isFaded 10 = .ok (.getfield 89, 3) := by decide +kernel
theorem dX12_isFaded_13 : decode cX12_isFaded 13 = .ok (.iconst 4, 1) := by decide +kernel
theorem dX12_isFaded_14 : decode cX12_isFaded 14 = .ok (.iaload, 1) := by decide +kernel
theorem dX12_isFaded_15 : decode cX12_isFaded 15 = .ok (.ifCond .ge 19, 3) := by decide +kernel
theorem dX12_isFaded_18 : decode cX12_isFaded 18 = .ok (.iload 4, 2) := by decide +kernel
theorem dX12_isFaded_20 : decode cX12_isFaded 20 = .ok (.invokestatic 309, 3) := by decide +kernel
theorem dX12_isFaded_23 : decode cX12_isFaded 23 = .ok (.bipush 8, 2) := by decide +kernel
theorem dX12_isFaded_25 : decode cX12_isFaded 25 = .ok (.if_icmp .le 7, 3) := by decide +kernel
theorem dX12_isFaded_28 : decode cX12_isFaded 28 = .ok (.iconst 1, 1) := by decide +kernel
theorem dX12_isFaded_29 : decode cX12_isFaded 29 = .ok (.goto 4, 3) := by decide +kernel
theorem dX12_isFaded_32 : decode cX12_isFaded 32 = .ok (.iconst 0, 1) := by decide +kernel
theorem dX12_isFaded_33 : decode cX12_isFaded 33 = .ok (.ireturn, 1) := by decide +kernel
theorem dX12_isFaded_34 : decode cX12_isFaded 34 = .ok (.aload_n 0, 1) := by decide +kernel
theorem dX12_isFaded_35 : decode cX12_isFaded 35 = .ok (.getfield 113, 3) := by decide +kernel
theorem dX12_isFaded_38 : decode cX12_isFaded 38 = .ok (.iconst 0, 1) := by decide +kernel
theorem dX12_isFaded_39 : decode cX12_isFaded 39 = .ok (.iload 4, 2) := by decide +kernel
theorem dX12_isFaded_41 : decode cX12_isFaded 41 = .ok (.invokestatic 309, 3) := by decide +kernel
theorem dX12_isFaded_44 : decode cX12_isFaded 44 = .ok (.iastore, 1) := by decide +kernel
theorem dX12_isFaded_45 : decode cX12_isFaded 45 = .ok (.aload_n 0, 1) := by decide +kernel
theorem dX12_isFaded_46 : decode cX12_isFaded 46 = .ok (.getfield 113, 3) := by decide +kernel
theorem dX12_isFaded_49 : decode cX12_isFaded 49 = .ok (.iconst 1, 1) := by decide +kernel
theorem dX12_isFaded_50 : decode cX12_isFaded 50 = .ok (.aload_n 0, 1) := by decide +kernel
theorem dX12_isFaded_51 : decode cX12_isFaded 51 = .ok (.getfield 89, 3) := by decide +kernel
theorem dX12_isFaded_54 : decode cX12_isFaded 54 = .ok (.bipush 28, 2) := by decide +kernel
theorem dX12_isFaded_56 : decode cX12_isFaded 56 = .ok (.iload 4, 2) := by decide +kernel
theorem dX12_isFaded_58 : decode cX12_isFaded 58 = .ok (.invokestatic 312, 3) := by decide +kernel
theorem dX12_isFaded_61 : decode cX12_isFaded 61 = .ok (.iadd, 1) := by decide +kernel
theorem dX12_isFaded_62 : decode cX12_isFaded 62 = .ok (.iaload, 1) := by decide +kernel
theorem dX12_isFaded_63 : decode cX12_isFaded 63 = .ok (.iastore, 1) := by decide +kernel
theorem dX12_isFaded_64 : decode cX12_isFaded 64 = .ok (.aload_n 0, 1) := by decide +kernel
theorem dX12_isFaded_65 : decode cX12_isFaded 65 = .ok (.getfield 113, 3) := by decide +kernel
theorem dX12_isFaded_68 : decode cX12_isFaded 68 = .ok (.iconst 2, 1) := by decide +kernel
theorem dX12_isFaded_69 : decode cX12_isFaded 69 = .ok (.aload_n 0, 1) := by decide +kernel
theorem dX12_isFaded_70 : decode cX12_isFaded 70 = .ok (.aload_n 0, 1) := by decide +kernel
theorem dX12_isFaded_71 : decode cX12_isFaded 71 = .ok (.getfield 119, 3) := by decide +kernel
theorem dX12_isFaded_74 : decode cX12_isFaded 74 = .ok (.iload_n 1, 1) := by decide +kernel
theorem dX12_isFaded_75 : decode cX12_isFaded 75 = .ok (.iconst 0, 1) := by decide +kernel
theorem dX12_isFaded_76 : decode cX12_isFaded 76 = .ok (.iadd, 1) := by decide +kernel
theorem dX12_isFaded_77 : decode cX12_isFaded 77 = .ok (.iaload, 1) := by decide +kernel
theorem dX12_isFaded_78 : decode cX12_isFaded 78 = .ok (.invokevirtual 291, 3) := by decide +kernel
theorem dX12_isFaded_81 : decode cX12_isFaded 81 = .ok (.iastore, 1) := by decide +kernel
theorem dX12_isFaded_82 : decode cX12_isFaded 82 = .ok (.aload_n 0, 1) := by decide +kernel
theorem dX12_isFaded_83 : decode cX12_isFaded 83 = .ok (.getfield 113, 3) := by decide +kernel
theorem dX12_isFaded_86 : decode cX12_isFaded 86 = .ok (.iconst 3, 1) := by decide +kernel
theorem dX12_isFaded_87 : decode cX12_isFaded 87 = .ok (.aload_n 0, 1) := by decide +kernel
theorem dX12_isFaded_88 : decode cX12_isFaded 88 = .ok (.getfield 119, 3) := by decide +kernel
theorem dX12_isFaded_91 : decode cX12_isFaded 91 = .ok (.iload_n 1, 1) := by decide +kernel
theorem dX12_isFaded_92 : decode cX12_isFaded 92 = .ok (.bipush 18, 2) := by decide +kernel
theorem dX12_isFaded_94 : decode cX12_isFaded 94 = .ok (.iadd, 1) := by decide +kernel
theorem dX12_isFaded_95 : decode cX12_isFaded 95 = .ok (.iload_n 2, 1) := by decide +kernel
theorem dX12_isFaded_96 : decode cX12_isFaded 96 = .ok (.iadd, 1) := by decide +kernel
theorem dX12_isFaded_97 : decode cX12_isFaded 97 = .ok (.iaload, 1) := by decide +kernel
theorem dX12_isFaded_98 : decode cX12_isFaded 98 = .ok (.iconst 1, 1) := by decide +kernel
theorem dX12_isFaded_99 : decode cX12_isFaded 99 = .ok (.isub, 1) := by decide +kernel
theorem dX12_isFaded_100 : decode cX12_isFaded 100 = .ok (.iload_n 3, 1) := by decide +kernel
theorem dX12_isFaded_101 : decode cX12_isFaded 101 = .ok (.isub, 1) := by decide +kernel
theorem dX12_isFaded_102 : decode cX12_isFaded 102 = .ok (.iastore, 1) := by decide +kernel
theorem dX12_isFaded_103 : decode cX12_isFaded 103 = .ok (.aload_n 0, 1) := by decide +kernel
theorem dX12_isFaded_104 : decode cX12_isFaded 104 = .ok (.aload_n 0, 1) := by decide +kernel
theorem dX12_isFaded_105 : decode cX12_isFaded 105 = .ok (.getfield 89, 3) := by decide +kernel
theorem dX12_isFaded_108 : decode cX12_isFaded 108 = .ok (.iconst 4, 1) := by decide +kernel
theorem dX12_isFaded_109 : decode cX12_isFaded 109 = .ok (.iaload, 1) := by decide +kernel
theorem dX12_isFaded_110 : decode cX12_isFaded 110 = .ok (.invokevirtual 315, 3) := by decide +kernel
theorem dX12_isFaded_113 : decode cX12_isFaded 113 = .ok (.ifCond .eq 7, 3) := by decide +kernel
theorem dX12_isFaded_116 : decode cX12_isFaded 116 = .ok (.iconst 1, 1) := by decide +kernel
theorem dX12_isFaded_117 : decode cX12_isFaded 117 = .ok (.goto 4, 3) := by decide +kernel
theorem dX12_isFaded_120 : decode cX12_isFaded 120 = .ok (.iconst 0, 1) := by decide +kernel
theorem dX12_isFaded_121 : decode cX12_isFaded 121 = .ok (.ireturn, 1) := by decide +kernel
theorem dX12_passes_0 : decode cX12_passes 0 = .ok (.iconst 0, 1) := by decide +kernel
theorem dX12_passes_1 : decode cX12_passes 1 = .ok (.istore_n 2, 1) := by decide +kernel
theorem dX12_passes_2 : decode cX12_passes 2 = .ok (.iconst 0, 1) := by decide +kernel
theorem dX12_passes_3 : decode cX12_passes 3 = .ok (.istore_n 3, 1) := by decide +kernel
theorem dX12_passes_4 : decode cX12_passes 4 = .ok (.iload_n 3, 1) := by decide +kernel
theorem dX12_passes_5 : decode cX12_passes 5 = .ok (.aload_n 0, 1) := by decide +kernel
theorem dX12_passes_6 : decode cX12_passes 6 = .ok (.invokevirtual 278, 3) := by decide +kernel
theorem dX12_passes_9 : decode cX12_passes 9 = .ok (.if_icmp .ge 66, 3) := by decide +kernel
theorem dX12_passes_12 : decode cX12_passes 12 = .ok (.iconst 0, 1) := by decide +kernel
theorem dX12_passes_13 : decode cX12_passes 13 = .ok (.istore 4, 2) := by decide +kernel
theorem dX12_passes_15 : decode cX12_passes 15 = .ok (.iload 4, 2) := by decide +kernel
theorem dX12_passes_17 : decode cX12_passes 17 = .ok (.aload_n 0, 1) := by decide +kernel
theorem dX12_passes_18 : decode cX12_passes 18 = .ok (.getfield 119, 3) := by decide +kernel
theorem dX12_passes_21 : decode cX12_passes 21 = .ok (.iload_n 1, 1) := by decide +kernel
theorem dX12_passes_22 : decode cX12_passes 22 = .ok (.bipush 18, 2) := by decide +kernel
theorem dX12_passes_24 : decode cX12_passes 24 = .ok (.iadd, 1) := by decide +kernel
theorem dX12_passes_25 : decode cX12_passes 25 = .ok (.iload_n 3, 1) := by decide +kernel
theorem dX12_passes_26 : decode cX12_passes 26 = .ok (.iadd, 1) := by decide +kernel
theorem dX12_passes_27 : decode cX12_passes 27 = .ok (.iaload, 1) := by decide +kernel
theorem dX12_passes_28 : decode cX12_passes 28 = .ok (.if_icmp .ge 41, 3) := by decide +kernel
theorem dX12_passes_31 : decode cX12_passes 31 = .ok (.aload_n 0, 1) := by decide +kernel
theorem dX12_passes_32 : decode cX12_passes 32 = .ok (.iload_n 1, 1) := by decide +kernel
theorem dX12_passes_33 : decode cX12_passes 33 = .ok (.iload_n 3, 1) := by decide +kernel
theorem dX12_passes_34 : decode cX12_passes 34 = .ok (.invokevirtual 287, 3) := by decide +kernel
theorem dX12_passes_37 : decode cX12_passes 37 = .ok (.ifCond .eq 32, 3) := by decide +kernel
theorem dX12_passes_40 : decode cX12_passes 40 = .ok (.aload_n 0, 1) := by decide +kernel
theorem dX12_passes_41 : decode cX12_passes 41 = .ok (.getfield 119, 3) := by decide +kernel
theorem dX12_passes_44 : decode cX12_passes 44 = .ok (.iload_n 1, 1) := by decide +kernel
theorem dX12_passes_45 : decode cX12_passes 45 = .ok (.bipush 24, 2) := by decide +kernel
theorem dX12_passes_47 : decode cX12_passes 47 = .ok (.iadd, 1) := by decide +kernel
theorem dX12_passes_48 : decode cX12_passes 48 = .ok (.bipush 6, 2) := by decide +kernel
theorem dX12_passes_50 : decode cX12_passes 50 = .ok (.iload_n 3, 1) := by decide +kernel
theorem dX12_passes_51 : decode cX12_passes 51 = .ok (.imul, 1) := by decide +kernel
theorem dX12_passes_52 : decode cX12_passes 52 = .ok (.iadd, 1) := by decide +kernel
theorem dX12_passes_53 : decode cX12_passes 53 = .ok (.iload 4, 2) := by decide +kernel
theorem dX12_passes_55 : decode cX12_passes 55 = .ok (.iadd, 1) := by decide +kernel
theorem dX12_passes_56 : decode cX12_passes 56 = .ok (.dup2, 1) := by decide +kernel
theorem dX12_passes_57 : decode cX12_passes 57 = .ok (.iaload, 1) := by decide +kernel
theorem dX12_passes_58 : decode cX12_passes 58 = .ok (.sipush 1024, 3) := by decide +kernel
theorem dX12_passes_61 : decode cX12_passes 61 = .ok (.iadd, 1) := by decide +kernel
theorem dX12_passes_62 : decode cX12_passes 62 = .ok (.iastore, 1) := by decide +kernel
theorem dX12_passes_63 : decode cX12_passes 63 = .ok (.iinc 4 1, 3) := by decide +kernel
theorem dX12_passes_66 : decode cX12_passes 66 = .ok (.goto (-51), 3) := by decide +kernel
theorem dX12_passes_69 : decode cX12_passes 69 = .ok (.iinc 3 1, 3) := by decide +kernel
theorem dX12_passes_72 : decode cX12_passes 72 = .ok (.goto (-68), 3) := by decide +kernel
theorem dX12_passes_75 : decode cX12_passes 75 = .ok (.iconst 0, 1) := by decide +kernel
theorem dX12_passes_76 : decode cX12_passes 76 = .ok (.istore_n 3, 1) := by decide +kernel
theorem dX12_passes_77 : decode cX12_passes 77 = .ok (.iload_n 3, 1) := by decide +kernel
theorem dX12_passes_78 : decode cX12_passes 78 = .ok (.aload_n 0, 1) := by decide +kernel
theorem dX12_passes_79 : decode cX12_passes 79 = .ok (.invokevirtual 278, 3) := by decide +kernel
theorem dX12_passes_82 : decode cX12_passes 82 = .ok (.if_icmp .ge 68, 3) := by decide +kernel
theorem dX12_passes_85 : decode cX12_passes 85 = .ok (.iconst 0, 1) := by decide +kernel
theorem dX12_passes_86 : decode cX12_passes 86 = .ok (.istore 4, 2) := by decide +kernel
theorem dX12_passes_88 : decode cX12_passes 88 = .ok (.aload_n 0, 1) := by decide +kernel
theorem dX12_passes_89 : decode cX12_passes 89 = .ok (.iload_n 1, 1) := by decide +kernel
theorem dX12_passes_90 : decode cX12_passes 90 = .ok (.iload_n 3, 1) := by decide +kernel
theorem dX12_passes_91 : decode cX12_passes 91 = .ok (.invokevirtual 287, 3) := by decide +kernel
theorem dX12_passes_94 : decode cX12_passes 94 = .ok (.ifCond .eq 50, 3) := by decide +kernel
theorem dX12_passes_97 : decode cX12_passes 97 = .ok (.iload 4, 2) := by decide +kernel
theorem dX12_passes_99 : decode cX12_passes 99 = .ok (.aload_n 0, 1) := by decide +kernel
theorem dX12_passes_100 : decode cX12_passes 100 = .ok (.getfield 119, 3) := by decide +kernel
theorem dX12_passes_103 : decode cX12_passes 103 = .ok (.iload_n 1, 1) := by decide +kernel
theorem dX12_passes_104 : decode cX12_passes 104 = .ok (.bipush 18, 2) := by decide +kernel
theorem dX12_passes_106 : decode cX12_passes 106 = .ok (.iadd, 1) := by decide +kernel
theorem dX12_passes_107 : decode cX12_passes 107 = .ok (.iload_n 3, 1) := by decide +kernel
theorem dX12_passes_108 : decode cX12_passes 108 = .ok (.iadd, 1) := by decide +kernel
theorem dX12_passes_109 : decode cX12_passes 109 = .ok (.iaload, 1) := by decide +kernel
theorem dX12_passes_110 : decode cX12_passes 110 = .ok (.if_icmp .ge 34, 3) := by decide +kernel
theorem dX12_passes_113 : decode cX12_passes 113 = .ok (.aload_n 0, 1) := by decide +kernel
theorem dX12_passes_114 : decode cX12_passes 114 = .ok (.iload_n 1, 1) := by decide +kernel
theorem dX12_passes_115 : decode cX12_passes 115 = .ok (.iload_n 3, 1) := by decide +kernel
theorem dX12_passes_116 : decode cX12_passes 116 = .ok (.iload 4, 2) := by decide +kernel
theorem dX12_passes_118 : decode cX12_passes 118 = .ok (.invokevirtual 318, 3) := by decide +kernel
theorem dX12_passes_121 : decode cX12_passes 121 = .ok (.ifCond .eq 17, 3) := by decide +kernel
theorem dX12_passes_124 : decode cX12_passes 124 = .ok (.aload_n 0, 1) := by decide +kernel
theorem dX12_passes_125 : decode cX12_passes 125 = .ok (.iload_n 1, 1) := by decide +kernel
theorem dX12_passes_126 : decode cX12_passes 126 = .ok (.iload_n 3, 1) := by decide +kernel
theorem dX12_passes_127 : decode cX12_passes 127 = .ok (.iload 4, 2) := by decide +kernel
theorem dX12_passes_129 : decode cX12_passes 129 = .ok (.invokevirtual 306, 3) := by decide +kernel
theorem dX12_passes_132 : decode cX12_passes 132 = .ok (.iinc 2 1, 3) := by decide +kernel
theorem dX12_passes_135 : decode cX12_passes 135 = .ok (.goto (-47), 3) := by decide +kernel
theorem dX12_passes_138 : decode cX12_passes 138 = .ok (.iinc 4 1, 3) := by decide +kernel
theorem dX12_passes_141 : decode cX12_passes 141 = .ok (.goto (-53), 3) := by decide +kernel
theorem dX12_passes_144 : decode cX12_passes 144 = .ok (.iinc 3 1, 3) := by decide +kernel
theorem dX12_passes_147 : decode cX12_passes 147 = .ok (.goto (-70), 3) := by decide +kernel
theorem dX12_passes_150 : decode cX12_passes 150 = .ok (.aload_n 0, 1) := by decide +kernel
theorem dX12_passes_151 : decode cX12_passes 151 = .ok (.getfield 119, 3) := by decide +kernel
theorem dX12_passes_154 : decode cX12_passes 154 = .ok (.iload_n 1, 1) := by decide +kernel
theorem dX12_passes_155 : decode cX12_passes 155 = .ok (.iconst 0, 1) := by decide +kernel
theorem dX12_passes_156 : decode cX12_passes 156 = .ok (.iadd, 1) := by decide +kernel
theorem dX12_passes_157 : decode cX12_passes 157 = .ok (.dup2, 1) := by decide +kernel
theorem dX12_passes_158 : decode cX12_passes 158 = .ok (.iaload, 1) := by decide +kernel
theorem dX12_passes_159 : decode cX12_passes 159 = .ok (.iconst 1, 1) := by decide +kernel
theorem dX12_passes_160 : decode cX12_passes 160 = .ok (.iadd, 1) := by decide +kernel
theorem dX12_passes_161 : decode cX12_passes 161 = .ok (.iastore, 1) := by decide +kernel
theorem dX12_passes_162 : decode cX12_passes 162 = .ok (.iload_n 2, 1) := by decide +kernel
theorem dX12_passes_163 : decode cX12_passes 163 = .ok (.ireturn, 1) := by decide +kernel
theorem dX12_isShown_0 : decode cX12_isShown 0 = .ok (.aload_n 0, 1) := by decide +kernel
theorem dX12_isShown_1 : decode cX12_isShown 1 = .ok (.iload_n 1, 1) := by decide +kernel
theorem dX12_isShown_2 : decode cX12_isShown 2 = .ok (.iload_n 2, 1) := by decide +kernel
theorem dX12_isShown_3 : decode cX12_isShown 3 = .ok (.invokevirtual 287, 3) := by decide +kernel
theorem dX12_isShown_6 : decode cX12_isShown 6 = .ok (.ifCond .eq 17, 3) := by decide +kernel
theorem dX12_isShown_9 : decode cX12_isShown 9 = .ok (.aload_n 0, 1) := by decide +kernel
theorem dX12_isShown_10 : decode cX12_isShown 10 = .ok (.getfield 119, 3) := by decide +kernel
theorem dX12_isShown_13 : decode cX12_isShown 13 = .ok (.iload_n 1, 1) := by decide +kernel
theorem dX12_isShown_14 : decode cX12_isShown 14 = .ok (.bipush 6, 2) := by decide +kernel
theorem dX12_isShown_16 : decode cX12_isShown 16 = .ok (.iadd, 1) := by decide +kernel
theorem dX12_isShown_17 : decode cX12_isShown 17 = .ok (.iload_n 2, 1) := by decide +kernel
theorem dX12_isShown_18 : decode cX12_isShown 18 = .ok (.iadd, 1) := by decide +kernel
theorem dX12_isShown_19 : decode cX12_isShown 19 = .ok (.iaload, 1) := by decide +kernel
theorem dX12_isShown_20 : decode cX12_isShown 20 = .ok (.ifCond .ne 7, 3) := by decide +kernel
theorem dX12_isShown_23 : decode cX12_isShown 23 = .ok (.iconst 1, 1) := by decide +kernel
theorem dX12_isShown_24 : decode cX12_isShown 24 = .ok (.goto 4, 3) := by decide +kernel
theorem dX12_isShown_27 : decode cX12_isShown 27 = .ok (.iconst 0, 1) := by decide +kernel
theorem dX12_isShown_28 : decode cX12_isShown 28 = .ok (.ireturn, 1) := by decide +kernel
theorem dX12_shownOf_0 : decode cX12_shownOf 0 = .ok (.aload_n 0, 1) := by decide +kernel
theorem dX12_shownOf_1 : decode cX12_shownOf 1 = .ok (.iload_n 1, 1) := by decide +kernel
theorem dX12_shownOf_2 : decode cX12_shownOf 2 = .ok (.iload_n 2, 1) := by decide +kernel
theorem dX12_shownOf_3 : decode cX12_shownOf 3 = .ok (.invokevirtual 287, 3) := by decide +kernel
theorem dX12_shownOf_6 : decode cX12_shownOf 6 = .ok (.ifCond .eq 17, 3) := by decide +kernel
theorem dX12_shownOf_9 : decode cX12_shownOf 9 = .ok (.aload_n 0, 1) := by decide +kernel
theorem dX12_shownOf_10 : decode cX12_shownOf 10 = .ok (.iload_n 2, 1) := by decide +kernel
theorem dX12_shownOf_11 : decode cX12_shownOf 11 = .ok (.iconst 0, 1) := by decide +kernel
theorem dX12_shownOf_12 : decode cX12_shownOf 12 = .ok (.invokevirtual 284, 3) := by decide +kernel
theorem dX12_shownOf_15 : decode cX12_shownOf 15 = .ok (.iconst 1, 1) := by decide +kernel
theorem dX12_shownOf_16 : decode cX12_shownOf 16 = .ok (.if_icmp .ne 7, 3) := by decide +kernel
theorem dX12_shownOf_19 : decode cX12_shownOf 19 = .ok (.iconst (-1), 1) := by decide +kernel
theorem dX12_shownOf_20 : decode cX12_shownOf 20 = .ok (.goto 7, 3) := by decide +kernel
theorem dX12_shownOf_23 : decode cX12_shownOf 23 = .ok (.iload_n 3, 1) := by decide +kernel
theorem dX12_shownOf_24 : decode cX12_shownOf 24 = .ok (.invokestatic 321, 3) := by decide +kernel
theorem dX12_shownOf_27 : decode cX12_shownOf 27 = .ok (.ireturn, 1) := by decide +kernel
theorem dX12_deedsBy_0 : decode cX12_deedsBy 0 = .ok (.iconst 0, 1) := by decide +kernel
theorem dX12_deedsBy_1 : decode cX12_deedsBy 1 = .ok (.istore 5, 2) := by decide +kernel
theorem dX12_deedsBy_3 : decode cX12_deedsBy 3 = .ok (.aload_n 0, 1) := by decide +kernel
theorem dX12_deedsBy_4 : decode cX12_deedsBy 4 = .ok (.getfield 119, 3) := by decide +kernel
theorem dX12_deedsBy_7 : decode cX12_deedsBy 7 = .ok (.iload_n 1, 1) := by decide +kernel
theorem dX12_deedsBy_8 : decode cX12_deedsBy 8 = .ok (.bipush 18, 2) := by decide +kernel
theorem dX12_deedsBy_10 : decode cX12_deedsBy 10 = .ok (.iadd, 1) := by decide +kernel
theorem dX12_deedsBy_11 : decode cX12_deedsBy 11 = .ok (.iload_n 2, 1) := by decide +kernel
theorem dX12_deedsBy_12 : decode cX12_deedsBy 12 = .ok (.iadd, 1) := by decide +kernel
theorem dX12_deedsBy_13 : decode cX12_deedsBy 13 = .ok (.iaload, 1) := by decide +kernel
theorem dX12_deedsBy_14 : decode cX12_deedsBy 14 = .ok (.istore 6, 2) := by decide +kernel
theorem dX12_deedsBy_16 : decode cX12_deedsBy 16 = .ok (.iload 6, 2) := by decide +kernel
theorem dX12_deedsBy_18 : decode cX12_deedsBy 18 = .ok (.iload 4, 2) := by decide +kernel
theorem dX12_deedsBy_20 : decode cX12_deedsBy 20 = .ok (.if_icmp .le 11, 3) := by decide +kernel
theorem dX12_deedsBy_23 : decode cX12_deedsBy 23 = .ok (.iload 6, 2) := by decide +kernel
theorem dX12_deedsBy_25 : decode cX12_deedsBy 25 = .ok (.iload 4, 2) := by decide +kernel
theorem dX12_deedsBy_27 : decode cX12_deedsBy 27 = .ok (.isub, 1) := by decide +kernel
theorem dX12_deedsBy_28 : decode cX12_deedsBy 28 = .ok (.goto 4, 3) := by decide +kernel
theorem dX12_deedsBy_31 : decode cX12_deedsBy 31 = .ok (.iconst 0, 1) := by decide +kernel
theorem dX12_deedsBy_32 : decode cX12_deedsBy 32 = .ok (.istore 7, 2) := by decide +kernel
theorem dX12_deedsBy_34 : decode cX12_deedsBy 34 = .ok (.iload 7, 2) := by decide +kernel
theorem dX12_deedsBy_36 : decode cX12_deedsBy 36 = .ok (.iload 6, 2) := by decide +kernel
theorem dX12_deedsBy_38 : decode cX12_deedsBy 38 = .ok (.if_icmp .ge 60, 3) := by decide +kernel
theorem dX12_deedsBy_41 : decode cX12_deedsBy 41 = .ok (.aload_n 0, 1) := by decide +kernel
theorem dX12_deedsBy_42 : decode cX12_deedsBy 42 = .ok (.iload_n 1, 1) := by decide +kernel
theorem dX12_deedsBy_43 : decode cX12_deedsBy 43 = .ok (.iload_n 2, 1) := by decide +kernel
theorem dX12_deedsBy_44 : decode cX12_deedsBy 44 = .ok (.invokevirtual 324, 3) := by decide +kernel
theorem dX12_deedsBy_47 : decode cX12_deedsBy 47 = .ok (.ifCond .eq 51, 3) := by decide +kernel
theorem dX12_deedsBy_50 : decode cX12_deedsBy 50 = .ok (.aload_n 0, 1) := by decide +kernel
theorem dX12_deedsBy_51 : decode cX12_deedsBy 51 = .ok (.iload_n 1, 1) := by decide +kernel
theorem dX12_deedsBy_52 : decode cX12_deedsBy 52 = .ok (.iload_n 2, 1) := by decide +kernel
theorem dX12_deedsBy_53 : decode cX12_deedsBy 53 = .ok (.iload 7, 2) := by decide +kernel
theorem dX12_deedsBy_55 : decode cX12_deedsBy 55 = .ok (.invokevirtual 300, 3) := by decide +kernel
theorem dX12_deedsBy_58 : decode cX12_deedsBy 58 = .ok (.istore 8, 2) := by decide +kernel
theorem dX12_deedsBy_60 : decode cX12_deedsBy 60 = .ok (.iload 5, 2) := by decide +kernel
theorem dX12_deedsBy_62 : decode cX12_deedsBy 62 = .ok (.iload_n 3, 1) := by decide +kernel
theorem dX12_deedsBy_63 : decode cX12_deedsBy 63 = .ok (.ifCond .lt 15, 3) := by decide +kernel
theorem dX12_deedsBy_66 : decode cX12_deedsBy 66 = .ok (.aload_n 0, 1) := by decide +kernel
theorem dX12_deedsBy_67 : decode cX12_deedsBy 67 = .ok (.iload_n 1, 1) := by decide +kernel
theorem dX12_deedsBy_68 : decode cX12_deedsBy 68 = .ok (.iload_n 2, 1) := by decide +kernel
theorem dX12_deedsBy_69 : decode cX12_deedsBy 69 = .ok (.iload 8, 2) := by decide +kernel
theorem dX12_deedsBy_71 : decode cX12_deedsBy 71 = .ok (.invokevirtual 327, 3) := by decide +kernel
theorem dX12_deedsBy_74 : decode cX12_deedsBy 74 = .ok (.iload_n 3, 1) := by decide +kernel
theorem dX12_deedsBy_75 : decode cX12_deedsBy 75 = .ok (.if_icmp .ne 13, 3) := by decide +kernel
theorem dX12_deedsBy_78 : decode cX12_deedsBy 78 = .ok (.iconst 1, 1) := by decide +kernel
theorem dX12_deedsBy_79 : decode cX12_deedsBy 79 = .ok (.iload 8, 2) := by decide +kernel
theorem dX12_deedsBy_81 : decode cX12_deedsBy 81 = .ok (.invokestatic 312, 3) := by decide +kernel
theorem dX12_deedsBy_84 : decode cX12_deedsBy 84 = .ok (.ishl, 1) := by decide +kernel
theorem dX12_deedsBy_85 : decode cX12_deedsBy 85 = .ok (.goto 4, 3) := by decide +kernel
theorem dX12_deedsBy_88 : decode cX12_deedsBy 88 = .ok (.iconst 0, 1) := by decide +kernel
theorem dX12_deedsBy_89 : decode cX12_deedsBy 89 = .ok (.ior, 1) := by decide +kernel
theorem dX12_deedsBy_90 : decode cX12_deedsBy 90 = .ok (.istore 5, 2) := by decide +kernel
theorem dX12_deedsBy_92 : decode cX12_deedsBy 92 = .ok (.iinc 7 1, 3) := by decide +kernel
theorem dX12_deedsBy_95 : decode cX12_deedsBy 95 = .ok (.goto (-61), 3) := by decide +kernel
theorem dX12_deedsBy_98 : decode cX12_deedsBy 98 = .ok (.iload 5, 2) := by decide +kernel
theorem dX12_deedsBy_100 : decode cX12_deedsBy 100 = .ok (.ireturn, 1) := by decide +kernel
theorem dX12_harmOf_0 : decode cX12_harmOf 0 = .ok (.iconst 0, 1) := by decide +kernel
theorem dX12_harmOf_1 : decode cX12_harmOf 1 = .ok (.istore_n 2, 1) := by decide +kernel
theorem dX12_harmOf_2 : decode cX12_harmOf 2 = .ok (.iconst 0, 1) := by decide +kernel
theorem dX12_harmOf_3 : decode cX12_harmOf 3 = .ok (.istore_n 3, 1) := by decide +kernel
theorem dX12_harmOf_4 : decode cX12_harmOf 4 = .ok (.iload_n 3, 1) := by decide +kernel
theorem dX12_harmOf_5 : decode cX12_harmOf 5 = .ok (.aload_n 0, 1) := by decide +kernel
theorem dX12_harmOf_6 : decode cX12_harmOf 6 = .ok (.invokevirtual 281, 3) := by decide +kernel
theorem dX12_harmOf_9 : decode cX12_harmOf 9 = .ok (.if_icmp .ge 34, 3) := by decide +kernel
theorem dX12_harmOf_12 : decode cX12_harmOf 12 = .ok (.iload_n 2, 1) := by decide +kernel
theorem dX12_harmOf_13 : decode cX12_harmOf 13 = .ok (.iload_n 1, 1) := by decide +kernel
theorem dX12_harmOf_14 : decode cX12_harmOf 14 = .ok (.iload_n 3, 1) := by decide +kernel
theorem dX12_harmOf_15 : decode cX12_harmOf 15 = .ok (.ishr, 1) := by decide +kernel
theorem dX12_harmOf_16 : decode cX12_harmOf 16 = .ok (.iconst 1, 1) := by decide +kernel
theorem dX12_harmOf_17 : decode cX12_harmOf 17 = .ok (.iand, 1) := by decide +kernel
theorem dX12_harmOf_18 : decode cX12_harmOf 18 = .ok (.iconst 1, 1) := by decide +kernel
theorem dX12_harmOf_19 : decode cX12_harmOf 19 = .ok (.if_icmp .ne 15, 3) := by decide +kernel
theorem dX12_harmOf_22 : decode cX12_harmOf 22 = .ok (.aload_n 0, 1) := by decide +kernel
theorem dX12_harmOf_23 : decode cX12_harmOf 23 = .ok (.getfield 89, 3) := by decide +kernel
theorem dX12_harmOf_26 : decode cX12_harmOf 26 = .ok (.bipush 28, 2) := by decide +kernel
theorem dX12_harmOf_28 : decode cX12_harmOf 28 = .ok (.iload_n 3, 1) := by decide +kernel
theorem dX12_harmOf_29 : decode cX12_harmOf 29 = .ok (.iadd, 1) := by decide +kernel
theorem dX12_harmOf_30 : decode cX12_harmOf 30 = .ok (.iaload, 1) := by decide +kernel
theorem dX12_harmOf_31 : decode cX12_harmOf 31 = .ok (.goto 4, 3) := by decide +kernel
theorem dX12_harmOf_34 : decode cX12_harmOf 34 = .ok (.iconst 0, 1) := by decide +kernel
theorem dX12_harmOf_35 : decode cX12_harmOf 35 = .ok (.iadd, 1) := by decide +kernel
theorem dX12_harmOf_36 : decode cX12_harmOf 36 = .ok (.istore_n 2, 1) := by decide +kernel
theorem dX12_harmOf_37 : decode cX12_harmOf 37 = .ok (.iinc 3 1, 3) := by decide +kernel
theorem dX12_harmOf_40 : decode cX12_harmOf 40 = .ok (.goto (-36), 3) := by decide +kernel
theorem dX12_harmOf_43 : decode cX12_harmOf 43 = .ok (.iload_n 2, 1) := by decide +kernel
theorem dX12_harmOf_44 : decode cX12_harmOf 44 = .ok (.ireturn, 1) := by decide +kernel
theorem dX12_harmShown_0 : decode cX12_harmShown 0 = .ok (.iconst 0, 1) := by decide +kernel
theorem dX12_harmShown_1 : decode cX12_harmShown 1 = .ok (.istore 4, 2) := by decide +kernel
theorem dX12_harmShown_3 : decode cX12_harmShown 3 = .ok (.iconst 0, 1) := by decide +kernel
theorem dX12_harmShown_4 : decode cX12_harmShown 4 = .ok (.istore 5, 2) := by decide +kernel
theorem dX12_harmShown_6 : decode cX12_harmShown 6 = .ok (.iload 5, 2) := by decide +kernel
theorem dX12_harmShown_8 : decode cX12_harmShown 8 = .ok (.aload_n 0, 1) := by decide +kernel
theorem dX12_harmShown_9 : decode cX12_harmShown 9 = .ok (.invokevirtual 278, 3) := by decide +kernel
theorem dX12_harmShown_12 : decode cX12_harmShown 12 = .ok (.if_icmp .ge 23, 3) := by decide +kernel
theorem dX12_harmShown_15 : decode cX12_harmShown 15 = .ok (.iload 4, 2) := by decide +kernel
theorem dX12_harmShown_17 : decode cX12_harmShown 17 = .ok (.aload_n 0, 1) := by decide +kernel
theorem dX12_harmShown_18 : decode cX12_harmShown 18 = .ok (.iload_n 1, 1) := by decide +kernel
theorem dX12_harmShown_19 : decode cX12_harmShown 19 = .ok (.iload 5, 2) := by decide +kernel
theorem dX12_harmShown_21 : decode cX12_harmShown 21 = .ok (.iload_n 2, 1) := by decide +kernel
theorem dX12_harmShown_22 : decode cX12_harmShown 22 = .ok (.iload_n 3, 1) := by decide +kernel
theorem dX12_harmShown_23 : decode cX12_harmShown 23 = .ok (.invokevirtual 330, 3) := by decide +kernel
theorem dX12_harmShown_26 : decode cX12_harmShown 26 = .ok (.ior, 1) := by decide +kernel
theorem dX12_harmShown_27 : decode cX12_harmShown 27 = .ok (.istore 4, 2) := by decide +kernel
theorem dX12_harmShown_29 : decode cX12_harmShown 29 = .ok (.iinc 5 1, 3) := by decide +kernel
theorem dX12_harmShown_32 : decode cX12_harmShown 32 = .ok (.goto (-26), 3) := by decide +kernel
theorem dX12_harmShown_35 : decode cX12_harmShown 35 = .ok (.aload_n 0, 1) := by decide +kernel
theorem dX12_harmShown_36 : decode cX12_harmShown 36 = .ok (.iload 4, 2) := by decide +kernel
theorem dX12_harmShown_38 : decode cX12_harmShown 38 = .ok (.invokevirtual 334, 3) := by decide +kernel
theorem dX12_harmShown_41 : decode cX12_harmShown 41 = .ok (.ireturn, 1) := by decide +kernel
theorem dX12_pane_0 : decode cX12_pane 0 = .ok (.aload_n 0, 1) := by decide +kernel
theorem dX12_pane_1 : decode cX12_pane 1 = .ok (.iconst 0, 1) := by decide +kernel
theorem dX12_pane_2 : decode cX12_pane 2 = .ok (.putfield 1, 3) := by decide +kernel
theorem dX12_pane_5 : decode cX12_pane 5 = .ok (.aload_n 0, 1) := by decide +kernel
theorem dX12_pane_6 : decode cX12_pane 6 = .ok (.iload_n 1, 1) := by decide +kernel
theorem dX12_pane_7 : decode cX12_pane 7 = .ok (.invokevirtual 337, 3) := by decide +kernel
theorem dX12_pane_10 : decode cX12_pane 10 = .ok (.ifCond .eq 12, 3) := by decide +kernel
theorem dX12_pane_13 : decode cX12_pane 13 = .ok (.iload_n 2, 1) := by decide +kernel
theorem dX12_pane_14 : decode cX12_pane 14 = .ok (.iconst 0, 1) := by decide +kernel
theorem dX12_pane_15 : decode cX12_pane 15 = .ok (.iconst 5, 1) := by decide +kernel
theorem dX12_pane_16 : decode cX12_pane 16 = .ok (.invokestatic 198, 3) := by decide +kernel
theorem dX12_pane_19 : decode cX12_pane 19 = .ok (.ifCond .ne 6, 3) := by decide +kernel
theorem dX12_pane_22 : decode cX12_pane 22 = .ok (.bipush (-2), 2) := by decide +kernel
theorem dX12_pane_24 : decode cX12_pane 24 = .ok (.ireturn, 1) := by decide +kernel
theorem dX12_pane_25 : decode cX12_pane 25 = .ok (.iload_n 2, 1) := by decide +kernel
theorem dX12_pane_26 : decode cX12_pane 26 = .ok (.tableswitch 71 0 4 #[34, 34, 41, 51, 61], 34) := by decide +kernel
theorem dX12_pane_60 : decode cX12_pane 60 = .ok (.aload_n 0, 1) := by decide +kernel
theorem dX12_pane_61 : decode cX12_pane 61 = .ok (.iload_n 1, 1) := by decide +kernel
theorem dX12_pane_62 : decode cX12_pane 62 = .ok (.iload_n 2, 1) := by decide +kernel
theorem dX12_pane_63 : decode cX12_pane 63 = .ok (.invokevirtual 284, 3) := by decide +kernel
theorem dX12_pane_66 : decode cX12_pane 66 = .ok (.ireturn, 1) := by decide +kernel
theorem dX12_pane_67 : decode cX12_pane 67 = .ok (.aload_n 0, 1) := by decide +kernel
theorem dX12_pane_68 : decode cX12_pane 68 = .ok (.getfield 119, 3) := by decide +kernel
theorem dX12_pane_71 : decode cX12_pane 71 = .ok (.bipush 18, 2) := by decide +kernel
theorem dX12_pane_73 : decode cX12_pane 73 = .ok (.iload_n 1, 1) := by decide +kernel
theorem dX12_pane_74 : decode cX12_pane 74 = .ok (.iadd, 1) := by decide +kernel
theorem dX12_pane_75 : decode cX12_pane 75 = .ok (.iaload, 1) := by decide +kernel
theorem dX12_pane_76 : decode cX12_pane 76 = .ok (.ireturn, 1) := by decide +kernel
theorem dX12_pane_77 : decode cX12_pane 77 = .ok (.aload_n 0, 1) := by decide +kernel
theorem dX12_pane_78 : decode cX12_pane 78 = .ok (.getfield 119, 3) := by decide +kernel
theorem dX12_pane_81 : decode cX12_pane 81 = .ok (.bipush 6, 2) := by decide +kernel
theorem dX12_pane_83 : decode cX12_pane 83 = .ok (.iload_n 1, 1) := by decide +kernel
theorem dX12_pane_84 : decode cX12_pane 84 = .ok (.iadd, 1) := by decide +kernel
theorem dX12_pane_85 : decode cX12_pane 85 = .ok (.iaload, 1) := by decide +kernel
theorem dX12_pane_86 : decode cX12_pane 86 = .ok (.ireturn, 1) := by decide +kernel
theorem dX12_pane_87 : decode cX12_pane 87 = .ok (.aload_n 0, 1) := by decide +kernel
theorem dX12_pane_88 : decode cX12_pane 88 = .ok (.getfield 119, 3) := by decide +kernel
theorem dX12_pane_91 : decode cX12_pane 91 = .ok (.bipush 12, 2) := by decide +kernel
theorem dX12_pane_93 : decode cX12_pane 93 = .ok (.iload_n 1, 1) := by decide +kernel
theorem dX12_pane_94 : decode cX12_pane 94 = .ok (.iadd, 1) := by decide +kernel
theorem dX12_pane_95 : decode cX12_pane 95 = .ok (.iaload, 1) := by decide +kernel
theorem dX12_pane_96 : decode cX12_pane 96 = .ok (.ireturn, 1) := by decide +kernel
theorem dX12_pane_97 : decode cX12_pane 97 = .ok (.aload_n 0, 1) := by decide +kernel
theorem dX12_pane_98 : decode cX12_pane 98 = .ok (.iconst 0, 1) := by decide +kernel
theorem dX12_pane_99 : decode cX12_pane 99 = .ok (.iload_n 1, 1) := by decide +kernel
theorem dX12_pane_100 : decode cX12_pane 100 = .ok (.invokevirtual 294, 3) := by decide +kernel
theorem dX12_pane_103 : decode cX12_pane 103 = .ok (.ireturn, 1) := by decide +kernel
theorem dX12_shown_0 : decode cX12_shown 0 = .ok (.aload_n 0, 1) := by decide +kernel
theorem dX12_shown_1 : decode cX12_shown 1 = .ok (.iconst 0, 1) := by decide +kernel
theorem dX12_shown_2 : decode cX12_shown 2 = .ok (.putfield 1, 3) := by decide +kernel
theorem dX12_shown_5 : decode cX12_shown 5 = .ok (.aload_n 0, 1) := by decide +kernel
theorem dX12_shown_6 : decode cX12_shown 6 = .ok (.iload_n 1, 1) := by decide +kernel
theorem dX12_shown_7 : decode cX12_shown 7 = .ok (.invokevirtual 337, 3) := by decide +kernel
theorem dX12_shown_10 : decode cX12_shown 10 = .ok (.ifCond .eq 40, 3) := by decide +kernel
theorem dX12_shown_13 : decode cX12_shown 13 = .ok (.aload_n 0, 1) := by decide +kernel
theorem dX12_shown_14 : decode cX12_shown 14 = .ok (.iconst 0, 1) := by decide +kernel
theorem dX12_shown_15 : decode cX12_shown 15 = .ok (.iload_n 1, 1) := by decide +kernel
theorem dX12_shown_16 : decode cX12_shown 16 = .ok (.invokevirtual 324, 3) := by decide +kernel
theorem dX12_shown_19 : decode cX12_shown 19 = .ok (.ifCond .eq 31, 3) := by decide +kernel
theorem dX12_shown_22 : decode cX12_shown 22 = .ok (.iload_n 2, 1) := by decide +kernel
theorem dX12_shown_23 : decode cX12_shown 23 = .ok (.iconst 0, 1) := by decide +kernel
theorem dX12_shown_24 : decode cX12_shown 24 = .ok (.aload_n 0, 1) := by decide +kernel
theorem dX12_shown_25 : decode cX12_shown 25 = .ok (.getfield 119, 3) := by decide +kernel
theorem dX12_shown_28 : decode cX12_shown 28 = .ok (.bipush 18, 2) := by decide +kernel
theorem dX12_shown_30 : decode cX12_shown 30 = .ok (.iload_n 1, 1) := by decide +kernel
theorem dX12_shown_31 : decode cX12_shown 31 = .ok (.iadd, 1) := by decide +kernel
theorem dX12_shown_32 : decode cX12_shown 32 = .ok (.iaload, 1) := by decide +kernel
theorem dX12_shown_33 : decode cX12_shown 33 = .ok (.iconst 1, 1) := by decide +kernel
theorem dX12_shown_34 : decode cX12_shown 34 = .ok (.isub, 1) := by decide +kernel
theorem dX12_shown_35 : decode cX12_shown 35 = .ok (.invokestatic 198, 3) := by decide +kernel
theorem dX12_shown_38 : decode cX12_shown 38 = .ok (.ifCond .eq 12, 3) := by decide +kernel
theorem dX12_shown_41 : decode cX12_shown 41 = .ok (.iload_n 3, 1) := by decide +kernel
theorem dX12_shown_42 : decode cX12_shown 42 = .ok (.iconst 0, 1) := by decide +kernel
theorem dX12_shown_43 : decode cX12_shown 43 = .ok (.iconst 3, 1) := by decide +kernel
theorem dX12_shown_44 : decode cX12_shown 44 = .ok (.invokestatic 198, 3) := by decide +kernel
theorem dX12_shown_47 : decode cX12_shown 47 = .ok (.ifCond .ne 6, 3) := by decide +kernel
theorem dX12_shown_50 : decode cX12_shown 50 = .ok (.bipush (-2), 2) := by decide +kernel
theorem dX12_shown_52 : decode cX12_shown 52 = .ok (.ireturn, 1) := by decide +kernel
theorem dX12_shown_53 : decode cX12_shown 53 = .ok (.aload_n 0, 1) := by decide +kernel
theorem dX12_shown_54 : decode cX12_shown 54 = .ok (.iconst 0, 1) := by decide +kernel
theorem dX12_shown_55 : decode cX12_shown 55 = .ok (.iload_n 1, 1) := by decide +kernel
theorem dX12_shown_56 : decode cX12_shown 56 = .ok (.iload_n 2, 1) := by decide +kernel
theorem dX12_shown_57 : decode cX12_shown 57 = .ok (.invokevirtual 300, 3) := by decide +kernel
theorem dX12_shown_60 : decode cX12_shown 60 = .ok (.istore 4, 2) := by decide +kernel
theorem dX12_shown_62 : decode cX12_shown 62 = .ok (.iload_n 3, 1) := by decide +kernel
theorem dX12_shown_63 : decode cX12_shown 63 = .ok (.ifCond .ne 14, 3) := by decide +kernel
theorem dX12_shown_66 : decode cX12_shown 66 = .ok (.aload_n 0, 1) := by decide +kernel
theorem dX12_shown_67 : decode cX12_shown 67 = .ok (.iconst 0, 1) := by decide +kernel
theorem dX12_shown_68 : decode cX12_shown 68 = .ok (.iload_n 1, 1) := by decide +kernel
theorem dX12_shown_69 : decode cX12_shown 69 = .ok (.iload 4, 2) := by decide +kernel
theorem dX12_shown_71 : decode cX12_shown 71 = .ok (.invokevirtual 327, 3) := by decide +kernel
theorem dX12_shown_74 : decode cX12_shown 74 = .ok (.goto 34, 3) := by decide +kernel
theorem dX12_shown_77 : decode cX12_shown 77 = .ok (.iload_n 3, 1) := by decide +kernel
theorem dX12_shown_78 : decode cX12_shown 78 = .ok (.iconst 1, 1) := by decide +kernel
theorem dX12_shown_79 : decode cX12_shown 79 = .ok (.if_icmp .ne 11, 3) := by decide +kernel
theorem dX12_shown_82 : decode cX12_shown 82 = .ok (.iload 4, 2) := by decide +kernel
theorem dX12_shown_84 : decode cX12_shown 84 = .ok (.invokestatic 312, 3) := by decide +kernel
theorem dX12_shown_87 : decode cX12_shown 87 = .ok (.goto 21, 3) := by decide +kernel
theorem dX12_shown_90 : decode cX12_shown 90 = .ok (.iload_n 3, 1) := by decide +kernel
theorem dX12_shown_91 : decode cX12_shown 91 = .ok (.iconst 2, 1) := by decide +kernel
theorem dX12_shown_92 : decode cX12_shown 92 = .ok (.if_icmp .ne 11, 3) := by decide +kernel
theorem dX12_shown_95 : decode cX12_shown 95 = .ok (.iload 4, 2) := by decide +kernel
theorem dX12_shown_97 : decode cX12_shown 97 = .ok (.invokestatic 340, 3) := by decide +kernel
theorem dX12_shown_100 : decode cX12_shown 100 = .ok (.goto 8, 3) := by decide +kernel
theorem dX12_shown_103 : decode cX12_shown 103 = .ok (.iload 4, 2) := by decide +kernel
theorem dX12_shown_105 : decode cX12_shown 105 = .ok (.invokestatic 309, 3) := by decide +kernel
theorem dX12_shown_108 : decode cX12_shown 108 = .ok (.ireturn, 1) := by decide +kernel
theorem dX12_person_0 : decode cX12_person 0 = .ok (.aload_n 0, 1) := by decide +kernel
theorem dX12_person_1 : decode cX12_person 1 = .ok (.iconst 0, 1) := by decide +kernel
theorem dX12_person_2 : decode cX12_person 2 = .ok (.putfield 1, 3) := by decide +kernel
theorem dX12_person_5 : decode cX12_person 5 = .ok (.aload_n 0, 1) := by decide +kernel
theorem dX12_person_6 : decode cX12_person 6 = .ok (.iload_n 1, 1) := by decide +kernel
theorem dX12_person_7 : decode cX12_person 7 = .ok (.invokevirtual 343, 3) := by decide +kernel
theorem dX12_person_10 : decode cX12_person 10 = .ok (.ifCond .eq 14, 3) := by decide +kernel
theorem dX12_person_13 : decode cX12_person 13 = .ok (.aload_n 0, 1) := by decide +kernel
theorem dX12_person_14 : decode cX12_person 14 = .ok (.getfield 119, 3) := by decide +kernel
theorem dX12_person_17 : decode cX12_person 17 = .ok (.iconst 1, 1) := by decide +kernel
theorem dX12_person_18 : decode cX12_person 18 = .ok (.iload_n 1, 1) := by decide +kernel
theorem dX12_person_19 : decode cX12_person 19 = .ok (.iadd, 1) := by decide +kernel
theorem dX12_person_20 : decode cX12_person 20 = .ok (.iaload, 1) := by decide +kernel
theorem dX12_person_21 : decode cX12_person 21 = .ok (.goto 4, 3) := by decide +kernel
theorem dX12_person_24 : decode cX12_person 24 = .ok (.iconst (-1), 1) := by decide +kernel
theorem dX12_person_25 : decode cX12_person 25 = .ok (.ireturn, 1) := by decide +kernel
theorem dX12_mayWalk_0 : decode cX12_mayWalk 0 = .ok (.iload_n 3, 1) := by decide +kernel
theorem dX12_mayWalk_1 : decode cX12_mayWalk 1 = .ok (.aload_n 0, 1) := by decide +kernel
theorem dX12_mayWalk_2 : decode cX12_mayWalk 2 = .ok (.getfield 119, 3) := by decide +kernel
theorem dX12_mayWalk_5 : decode cX12_mayWalk 5 = .ok (.iload_n 1, 1) := by decide +kernel
theorem dX12_mayWalk_6 : decode cX12_mayWalk 6 = .ok (.iconst 1, 1) := by decide +kernel
theorem dX12_mayWalk_7 : decode cX12_mayWalk 7 = .ok (.iadd, 1) := by decide +kernel
theorem dX12_mayWalk_8 : decode cX12_mayWalk 8 = .ok (.iload_n 2, 1) := by decide +kernel
theorem dX12_mayWalk_9 : decode cX12_mayWalk 9 = .ok (.iadd, 1) := by decide +kernel
theorem dX12_mayWalk_10 : decode cX12_mayWalk 10 = .ok (.iaload, 1) := by decide +kernel
theorem dX12_mayWalk_11 : decode cX12_mayWalk 11 = .ok (.isub, 1) := by decide +kernel
theorem dX12_mayWalk_12 : decode cX12_mayWalk 12 = .ok (.istore 4, 2) := by decide +kernel
theorem dX12_mayWalk_14 : decode cX12_mayWalk 14 = .ok (.iload_n 3, 1) := by decide +kernel
theorem dX12_mayWalk_15 : decode cX12_mayWalk 15 = .ok (.iconst 0, 1) := by decide +kernel
theorem dX12_mayWalk_16 : decode cX12_mayWalk 16 = .ok (.bipush 9, 2) := by decide +kernel
theorem dX12_mayWalk_18 : decode cX12_mayWalk 18 = .ok (.invokestatic 198, 3) := by decide +kernel
theorem dX12_mayWalk_21 : decode cX12_mayWalk 21 = .ok (.ifCond .eq 19, 3) := by decide +kernel
theorem dX12_mayWalk_24 : decode cX12_mayWalk 24 = .ok (.iload 4, 2) := by decide +kernel
theorem dX12_mayWalk_26 : decode cX12_mayWalk 26 = .ok (.iconst 1, 1) := by decide +kernel
theorem dX12_mayWalk_27 : decode cX12_mayWalk 27 = .ok (.if_icmp .eq 9, 3) := by decide +kernel
theorem dX12_mayWalk_30 : decode cX12_mayWalk 30 = .ok (.iload 4, 2) := by decide +kernel
theorem dX12_mayWalk_32 : decode cX12_mayWalk 32 = .ok (.iconst (-1), 1) := by decide +kernel
theorem dX12_mayWalk_33 : decode cX12_mayWalk 33 = .ok (.if_icmp .ne 7, 3) := by decide +kernel
theorem dX12_mayWalk_36 : decode cX12_mayWalk 36 = .ok (.iconst 1, 1) := by decide +kernel
theorem dX12_mayWalk_37 : decode cX12_mayWalk 37 = .ok (.goto 4, 3) := by decide +kernel
theorem dX12_mayWalk_40 : decode cX12_mayWalk 40 = .ok (.iconst 0, 1) := by decide +kernel
theorem dX12_mayWalk_41 : decode cX12_mayWalk 41 = .ok (.ireturn, 1) := by decide +kernel
theorem dX12_walk_0 : decode cX12_walk 0 = .ok (.aload_n 0, 1) := by decide +kernel
theorem dX12_walk_1 : decode cX12_walk 1 = .ok (.iconst 0, 1) := by decide +kernel
theorem dX12_walk_2 : decode cX12_walk 2 = .ok (.putfield 1, 3) := by decide +kernel
theorem dX12_walk_5 : decode cX12_walk 5 = .ok (.aload_n 0, 1) := by decide +kernel
theorem dX12_walk_6 : decode cX12_walk 6 = .ok (.iload_n 1, 1) := by decide +kernel
theorem dX12_walk_7 : decode cX12_walk 7 = .ok (.invokevirtual 343, 3) := by decide +kernel
theorem dX12_walk_10 : decode cX12_walk 10 = .ok (.ifCond .eq 13, 3) := by decide +kernel
theorem dX12_walk_13 : decode cX12_walk 13 = .ok (.aload_n 0, 1) := by decide +kernel
theorem dX12_walk_14 : decode cX12_walk 14 = .ok (.iconst 0, 1) := by decide +kernel
theorem dX12_walk_15 : decode cX12_walk 15 = .ok (.iload_n 1, 1) := by decide +kernel
theorem dX12_walk_16 : decode cX12_walk 16 = .ok (.iload_n 2, 1) := by decide +kernel
theorem dX12_walk_17 : decode cX12_walk 17 = .ok (.invokevirtual 346, 3) := by decide +kernel
theorem dX12_walk_20 : decode cX12_walk 20 = .ok (.ifCond .ne 5, 3) := by decide +kernel
theorem dX12_walk_23 : decode cX12_walk 23 = .ok (.iconst 0, 1) := by decide +kernel
theorem dX12_walk_24 : decode cX12_walk 24 = .ok (.ireturn, 1) := by decide +kernel
theorem dX12_walk_25 : decode cX12_walk 25 = .ok (.aload_n 0, 1) := by decide +kernel
theorem dX12_walk_26 : decode cX12_walk 26 = .ok (.invokevirtual 349, 3) := by decide +kernel
theorem dX12_walk_29 : decode cX12_walk 29 = .ok (.aload_n 0, 1) := by decide +kernel
theorem dX12_walk_30 : decode cX12_walk 30 = .ok (.getfield 119, 3) := by decide +kernel
theorem dX12_walk_33 : decode cX12_walk 33 = .ok (.iconst 1, 1) := by decide +kernel
theorem dX12_walk_34 : decode cX12_walk 34 = .ok (.iload_n 1, 1) := by decide +kernel
theorem dX12_walk_35 : decode cX12_walk 35 = .ok (.iadd, 1) := by decide +kernel
theorem dX12_walk_36 : decode cX12_walk 36 = .ok (.iload_n 2, 1) := by decide +kernel
theorem dX12_walk_37 : decode cX12_walk 37 = .ok (.iastore, 1) := by decide +kernel
theorem dX12_walk_38 : decode cX12_walk 38 = .ok (.iconst 1, 1) := by decide +kernel
theorem dX12_walk_39 : decode cX12_walk 39 = .ok (.ireturn, 1) := by decide +kernel
theorem dX12_does__0 : decode cX12_does_ 0 = .ok (.aload_n 0, 1) := by decide +kernel
theorem dX12_does__1 : decode cX12_does_ 1 = .ok (.iconst 0, 1) := by decide +kernel
theorem dX12_does__2 : decode cX12_does_ 2 = .ok (.putfield 1, 3) := by decide +kernel
theorem dX12_does__5 : decode cX12_does_ 5 = .ok (.aload_n 0, 1) := by decide +kernel
theorem dX12_does__6 : decode cX12_does_ 6 = .ok (.iload_n 1, 1) := by decide +kernel
theorem dX12_does__7 : decode cX12_does_ 7 = .ok (.invokevirtual 343, 3) := by decide +kernel
theorem dX12_does__10 : decode cX12_does_ 10 = .ok (.ifCond .eq 11, 3) := by decide +kernel
theorem dX12_does__13 : decode cX12_does_ 13 = .ok (.aload_n 0, 1) := by decide +kernel
theorem dX12_does__14 : decode cX12_does_ 14 = .ok (.iload_n 2, 1) := by decide +kernel
theorem dX12_does__15 : decode cX12_does_ 15 = .ok (.invokevirtual 352, 3) := by decide +kernel
theorem dX12_does__18 : decode cX12_does_ 18 = .ok (.ifCond .ne 5, 3) := by decide +kernel
theorem dX12_does__21 : decode cX12_does_ 21 = .ok (.iconst (-1), 1) := by decide +kernel
theorem dX12_does__22 : decode cX12_does_ 22 = .ok (.ireturn, 1) := by decide +kernel
theorem dX12_does__23 : decode cX12_does_ 23 = .ok (.aload_n 0, 1) := by decide +kernel
theorem dX12_does__24 : decode cX12_does_ 24 = .ok (.invokevirtual 349, 3) := by decide +kernel
theorem dX12_does__27 : decode cX12_does_ 27 = .ok (.aload_n 0, 1) := by decide +kernel
theorem dX12_does__28 : decode cX12_does_ 28 = .ok (.iconst 0, 1) := by decide +kernel
theorem dX12_does__29 : decode cX12_does_ 29 = .ok (.iload_n 1, 1) := by decide +kernel
theorem dX12_does__30 : decode cX12_does_ 30 = .ok (.iload_n 2, 1) := by decide +kernel
theorem dX12_does__31 : decode cX12_does_ 31 = .ok (.aload_n 0, 1) := by decide +kernel
theorem dX12_does__32 : decode cX12_does_ 32 = .ok (.getfield 119, 3) := by decide +kernel
theorem dX12_does__35 : decode cX12_does_ 35 = .ok (.iconst 1, 1) := by decide +kernel
theorem dX12_does__36 : decode cX12_does_ 36 = .ok (.iload_n 1, 1) := by decide +kernel
theorem dX12_does__37 : decode cX12_does_ 37 = .ok (.iadd, 1) := by decide +kernel
theorem dX12_does__38 : decode cX12_does_ 38 = .ok (.iaload, 1) := by decide +kernel
theorem dX12_does__39 : decode cX12_does_ 39 = .ok (.invokevirtual 355, 3) := by decide +kernel
theorem dX12_does__42 : decode cX12_does_ 42 = .ok (.ireturn, 1) := by decide +kernel
theorem dX12_mayWash_0 : decode cX12_mayWash 0 = .ok (.aload_n 0, 1) := by decide +kernel
theorem dX12_mayWash_1 : decode cX12_mayWash 1 = .ok (.iload_n 1, 1) := by decide +kernel
theorem dX12_mayWash_2 : decode cX12_mayWash 2 = .ok (.iload_n 2, 1) := by decide +kernel
theorem dX12_mayWash_3 : decode cX12_mayWash 3 = .ok (.invokevirtual 287, 3) := by decide +kernel
theorem dX12_mayWash_6 : decode cX12_mayWash 6 = .ok (.ifCond .eq 21, 3) := by decide +kernel
theorem dX12_mayWash_9 : decode cX12_mayWash 9 = .ok (.aload_n 0, 1) := by decide +kernel
theorem dX12_mayWash_10 : decode cX12_mayWash 10 = .ok (.getfield 119, 3) := by decide +kernel
theorem dX12_mayWash_13 : decode cX12_mayWash 13 = .ok (.iload_n 1, 1) := by decide +kernel
theorem dX12_mayWash_14 : decode cX12_mayWash 14 = .ok (.bipush 18, 2) := by decide +kernel
theorem dX12_mayWash_16 : decode cX12_mayWash 16 = .ok (.iadd, 1) := by decide +kernel
theorem dX12_mayWash_17 : decode cX12_mayWash 17 = .ok (.iload_n 2, 1) := by decide +kernel
theorem dX12_mayWash_18 : decode cX12_mayWash 18 = .ok (.iadd, 1) := by decide +kernel
theorem dX12_mayWash_19 : decode cX12_mayWash 19 = .ok (.iaload, 1) := by decide +kernel
theorem dX12_mayWash_20 : decode cX12_mayWash 20 = .ok (.ifCond .le 7, 3) := by decide +kernel
theorem dX12_mayWash_23 : decode cX12_mayWash 23 = .ok (.iconst 1, 1) := by decide +kernel
theorem dX12_mayWash_24 : decode cX12_mayWash 24 = .ok (.goto 4, 3) := by decide +kernel
theorem dX12_mayWash_27 : decode cX12_mayWash 27 = .ok (.iconst 0, 1) := by decide +kernel
theorem dX12_mayWash_28 : decode cX12_mayWash 28 = .ok (.ireturn, 1) := by decide +kernel
theorem dX12_wash_0 : decode cX12_wash 0 = .ok (.aload_n 0, 1) := by decide +kernel
theorem dX12_wash_1 : decode cX12_wash 1 = .ok (.iconst 0, 1) := by decide +kernel
theorem dX12_wash_2 : decode cX12_wash 2 = .ok (.putfield 1, 3) := by decide +kernel
theorem dX12_wash_5 : decode cX12_wash 5 = .ok (.aload_n 0, 1) := by decide +kernel
theorem dX12_wash_6 : decode cX12_wash 6 = .ok (.iload_n 1, 1) := by decide +kernel
theorem dX12_wash_7 : decode cX12_wash 7 = .ok (.invokevirtual 337, 3) := by decide +kernel
theorem dX12_wash_10 : decode cX12_wash 10 = .ok (.ifCond .eq 12, 3) := by decide +kernel
theorem dX12_wash_13 : decode cX12_wash 13 = .ok (.aload_n 0, 1) := by decide +kernel
theorem dX12_wash_14 : decode cX12_wash 14 = .ok (.iconst 0, 1) := by decide +kernel
theorem dX12_wash_15 : decode cX12_wash 15 = .ok (.iload_n 1, 1) := by decide +kernel
theorem dX12_wash_16 : decode cX12_wash 16 = .ok (.invokevirtual 358, 3) := by decide +kernel
theorem dX12_wash_19 : decode cX12_wash 19 = .ok (.ifCond .ne 5, 3) := by decide +kernel
theorem dX12_wash_22 : decode cX12_wash 22 = .ok (.iconst (-1), 1) := by decide +kernel
theorem dX12_wash_23 : decode cX12_wash 23 = .ok (.ireturn, 1) := by decide +kernel
theorem dX12_wash_24 : decode cX12_wash 24 = .ok (.aload_n 0, 1) := by decide +kernel
theorem dX12_wash_25 : decode cX12_wash 25 = .ok (.invokevirtual 349, 3) := by decide +kernel
theorem dX12_wash_28 : decode cX12_wash 28 = .ok (.aload_n 0, 1) := by decide +kernel
theorem dX12_wash_29 : decode cX12_wash 29 = .ok (.getfield 119, 3) := by decide +kernel
theorem dX12_wash_32 : decode cX12_wash 32 = .ok (.bipush 18, 2) := by decide +kernel
theorem dX12_wash_34 : decode cX12_wash 34 = .ok (.iload_n 1, 1) := by decide +kernel
theorem dX12_wash_35 : decode cX12_wash 35 = .ok (.iadd, 1) := by decide +kernel
theorem dX12_wash_36 : decode cX12_wash 36 = .ok (.dup2, 1) := by decide +kernel
theorem dX12_wash_37 : decode cX12_wash 37 = .ok (.iaload, 1) := by decide +kernel
theorem dX12_wash_38 : decode cX12_wash 38 = .ok (.iconst 1, 1) := by decide +kernel
theorem dX12_wash_39 : decode cX12_wash 39 = .ok (.isub, 1) := by decide +kernel
theorem dX12_wash_40 : decode cX12_wash 40 = .ok (.iastore, 1) := by decide +kernel
theorem dX12_wash_41 : decode cX12_wash 41 = .ok (.aload_n 0, 1) := by decide +kernel
theorem dX12_wash_42 : decode cX12_wash 42 = .ok (.getfield 119, 3) := by decide +kernel
theorem dX12_wash_45 : decode cX12_wash 45 = .ok (.bipush 18, 2) := by decide +kernel
theorem dX12_wash_47 : decode cX12_wash 47 = .ok (.iload_n 1, 1) := by decide +kernel
theorem dX12_wash_48 : decode cX12_wash 48 = .ok (.iadd, 1) := by decide +kernel
theorem dX12_wash_49 : decode cX12_wash 49 = .ok (.iaload, 1) := by decide +kernel
theorem dX12_wash_50 : decode cX12_wash 50 = .ok (.ireturn, 1) := by decide +kernel
theorem dX12_curtain_0 : decode cX12_curtain 0 = .ok (.aload_n 0, 1) := by decide +kernel
theorem dX12_curtain_1 : decode cX12_curtain 1 = .ok (.iconst 0, 1) := by decide +kernel
theorem dX12_curtain_2 : decode cX12_curtain 2 = .ok (.putfield 1, 3) := by decide +kernel
theorem dX12_curtain_5 : decode cX12_curtain 5 = .ok (.aload_n 0, 1) := by decide +kernel
theorem dX12_curtain_6 : decode cX12_curtain 6 = .ok (.iload_n 1, 1) := by decide +kernel
theorem dX12_curtain_7 : decode cX12_curtain 7 = .ok (.invokevirtual 337, 3) := by decide +kernel
theorem dX12_curtain_10 : decode cX12_curtain 10 = .ok (.ifCond .eq 12, 3) := by decide +kernel
theorem dX12_curtain_13 : decode cX12_curtain 13 = .ok (.aload_n 0, 1) := by decide +kernel
theorem dX12_curtain_14 : decode cX12_curtain 14 = .ok (.iconst 0, 1) := by decide +kernel
theorem dX12_curtain_15 : decode cX12_curtain 15 = .ok (.iload_n 1, 1) := by decide +kernel
theorem dX12_curtain_16 : decode cX12_curtain 16 = .ok (.invokevirtual 287, 3) := by decide +kernel
theorem dX12_curtain_19 : decode cX12_curtain 19 = .ok (.ifCond .ne 5, 3) := by decide +kernel
theorem dX12_curtain_22 : decode cX12_curtain 22 = .ok (.iconst 0, 1) := by decide +kernel
theorem dX12_curtain_23 : decode cX12_curtain 23 = .ok (.ireturn, 1) := by decide +kernel
theorem dX12_curtain_24 : decode cX12_curtain 24 = .ok (.aload_n 0, 1) := by decide +kernel
theorem dX12_curtain_25 : decode cX12_curtain 25 = .ok (.invokevirtual 349, 3) := by decide +kernel
theorem dX12_curtain_28 : decode cX12_curtain 28 = .ok (.aload_n 0, 1) := by decide +kernel
theorem dX12_curtain_29 : decode cX12_curtain 29 = .ok (.getfield 119, 3) := by decide +kernel
theorem dX12_curtain_32 : decode cX12_curtain 32 = .ok (.bipush 6, 2) := by decide +kernel
theorem dX12_curtain_34 : decode cX12_curtain 34 = .ok (.iload_n 1, 1) := by decide +kernel
theorem dX12_curtain_35 : decode cX12_curtain 35 = .ok (.iadd, 1) := by decide +kernel
theorem dX12_curtain_36 : decode cX12_curtain 36 = .ok (.iconst 1, 1) := by decide +kernel
theorem dX12_curtain_37 : decode cX12_curtain 37 = .ok (.aload_n 0, 1) := by decide +kernel
theorem dX12_curtain_38 : decode cX12_curtain 38 = .ok (.getfield 119, 3) := by decide +kernel
theorem dX12_curtain_41 : decode cX12_curtain 41 = .ok (.bipush 6, 2) := by decide +kernel
theorem dX12_curtain_43 : decode cX12_curtain 43 = .ok (.iload_n 1, 1) := by decide +kernel
theorem dX12_curtain_44 : decode cX12_curtain 44 = .ok (.iadd, 1) := by decide +kernel
theorem dX12_curtain_45 : decode cX12_curtain 45 = .ok (.iaload, 1) := by decide +kernel
theorem dX12_curtain_46 : decode cX12_curtain 46 = .ok (.isub, 1) := by decide +kernel
theorem dX12_curtain_47 : decode cX12_curtain 47 = .ok (.iastore, 1) := by decide +kernel
theorem dX12_curtain_48 : decode cX12_curtain 48 = .ok (.iconst 1, 1) := by decide +kernel
theorem dX12_curtain_49 : decode cX12_curtain 49 = .ok (.ireturn, 1) := by decide +kernel
theorem dX12_stone_0 : decode cX12_stone 0 = .ok (.aload_n 0, 1) := by decide +kernel
theorem dX12_stone_1 : decode cX12_stone 1 = .ok (.iconst 0, 1) := by decide +kernel
theorem dX12_stone_2 : decode cX12_stone 2 = .ok (.putfield 1, 3) := by decide +kernel
theorem dX12_stone_5 : decode cX12_stone 5 = .ok (.aload_n 0, 1) := by decide +kernel
theorem dX12_stone_6 : decode cX12_stone 6 = .ok (.iload_n 1, 1) := by decide +kernel
theorem dX12_stone_7 : decode cX12_stone 7 = .ok (.invokevirtual 337, 3) := by decide +kernel
theorem dX12_stone_10 : decode cX12_stone 10 = .ok (.ifCond .eq 12, 3) := by decide +kernel
theorem dX12_stone_13 : decode cX12_stone 13 = .ok (.aload_n 0, 1) := by decide +kernel
theorem dX12_stone_14 : decode cX12_stone 14 = .ok (.iconst 0, 1) := by decide +kernel
theorem dX12_stone_15 : decode cX12_stone 15 = .ok (.iload_n 1, 1) := by decide +kernel
theorem dX12_stone_16 : decode cX12_stone 16 = .ok (.invokevirtual 287, 3) := by decide +kernel
theorem dX12_stone_19 : decode cX12_stone 19 = .ok (.ifCond .ne 5, 3) := by decide +kernel
theorem dX12_stone_22 : decode cX12_stone 22 = .ok (.iconst 0, 1) := by decide +kernel
theorem dX12_stone_23 : decode cX12_stone 23 = .ok (.ireturn, 1) := by decide +kernel
theorem dX12_stone_24 : decode cX12_stone 24 = .ok (.aload_n 0, 1) := by decide +kernel
theorem dX12_stone_25 : decode cX12_stone 25 = .ok (.invokevirtual 349, 3) := by decide +kernel
theorem dX12_stone_28 : decode cX12_stone 28 = .ok (.aload_n 0, 1) := by decide +kernel
theorem dX12_stone_29 : decode cX12_stone 29 = .ok (.getfield 119, 3) := by decide +kernel
theorem dX12_stone_32 : decode cX12_stone 32 = .ok (.bipush 12, 2) := by decide +kernel
theorem dX12_stone_34 : decode cX12_stone 34 = .ok (.iload_n 1, 1) := by decide +kernel
theorem dX12_stone_35 : decode cX12_stone 35 = .ok (.iadd, 1) := by decide +kernel
theorem dX12_stone_36 : decode cX12_stone 36 = .ok (.iconst 1, 1) := by decide +kernel
theorem dX12_stone_37 : decode cX12_stone 37 = .ok (.iastore, 1) := by decide +kernel
theorem dX12_stone_38 : decode cX12_stone 38 = .ok (.iconst 1, 1) := by decide +kernel
theorem dX12_stone_39 : decode cX12_stone 39 = .ok (.ireturn, 1) := by decide +kernel
theorem dX12_hour_0 : decode cX12_hour 0 = .ok (.aload_n 0, 1) := by decide +kernel
theorem dX12_hour_1 : decode cX12_hour 1 = .ok (.iconst 0, 1) := by decide +kernel
theorem dX12_hour_2 : decode cX12_hour 2 = .ok (.putfield 1, 3) := by decide +kernel
theorem dX12_hour_5 : decode cX12_hour 5 = .ok (.aload_n 0, 1) := by decide +kernel
theorem dX12_hour_6 : decode cX12_hour 6 = .ok (.invokevirtual 349, 3) := by decide +kernel
theorem dX12_hour_9 : decode cX12_hour 9 = .ok (.aload_n 0, 1) := by decide +kernel
theorem dX12_hour_10 : decode cX12_hour 10 = .ok (.iconst 0, 1) := by decide +kernel
theorem dX12_hour_11 : decode cX12_hour 11 = .ok (.invokevirtual 361, 3) := by decide +kernel
theorem dX12_hour_14 : decode cX12_hour 14 = .ok (.ireturn, 1) := by decide +kernel
theorem dX12_undo_0 : decode cX12_undo 0 = .ok (.aload_n 0, 1) := by decide +kernel
theorem dX12_undo_1 : decode cX12_undo 1 = .ok (.iconst 0, 1) := by decide +kernel
theorem dX12_undo_2 : decode cX12_undo 2 = .ok (.putfield 1, 3) := by decide +kernel
theorem dX12_undo_5 : decode cX12_undo 5 = .ok (.aload_n 0, 1) := by decide +kernel
theorem dX12_undo_6 : decode cX12_undo 6 = .ok (.getfield 272, 3) := by decide +kernel
theorem dX12_undo_9 : decode cX12_undo 9 = .ok (.ifCond .ne 5, 3) := by decide +kernel
theorem dX12_undo_12 : decode cX12_undo 12 = .ok (.iconst 0, 1) := by decide +kernel
theorem dX12_undo_13 : decode cX12_undo 13 = .ok (.ireturn, 1) := by decide +kernel
theorem dX12_undo_14 : decode cX12_undo 14 = .ok (.aload_n 0, 1) := by decide +kernel
theorem dX12_undo_15 : decode cX12_undo 15 = .ok (.dup, 1) := by decide +kernel
theorem dX12_undo_16 : decode cX12_undo 16 = .ok (.getfield 272, 3) := by decide +kernel
theorem dX12_undo_19 : decode cX12_undo 19 = .ok (.iconst 1, 1) := by decide +kernel
theorem dX12_undo_20 : decode cX12_undo 20 = .ok (.isub, 1) := by decide +kernel
theorem dX12_undo_21 : decode cX12_undo 21 = .ok (.putfield 272, 3) := by decide +kernel
theorem dX12_undo_24 : decode cX12_undo 24 = .ok (.aload_n 0, 1) := by decide +kernel
theorem dX12_undo_25 : decode cX12_undo 25 = .ok (.bipush 66, 2) := by decide +kernel
theorem dX12_undo_27 : decode cX12_undo 27 = .ok (.iconst 5, 1) := by decide +kernel
theorem dX12_undo_28 : decode cX12_undo 28 = .ok (.aload_n 0, 1) := by decide +kernel
theorem dX12_undo_29 : decode cX12_undo 29 = .ok (.getfield 272, 3) := by decide +kernel
theorem dX12_undo_32 : decode cX12_undo 32 = .ok (.iadd, 1) := by decide +kernel
theorem dX12_undo_33 : decode cX12_undo 33 = .ok (.imul, 1) := by decide +kernel
theorem dX12_undo_34 : decode cX12_undo 34 = .ok (.iconst 0, 1) := by decide +kernel
theorem dX12_undo_35 : decode cX12_undo 35 = .ok (.bipush 60, 2) := by decide +kernel
theorem dX12_undo_37 : decode cX12_undo 37 = .ok (.invokevirtual 275, 3) := by decide +kernel
theorem dX12_undo_40 : decode cX12_undo 40 = .ok (.iconst 1, 1) := by decide +kernel
theorem dX12_undo_41 : decode cX12_undo 41 = .ok (.ireturn, 1) := by decide +kernel
theorem dX12_done_0 : decode cX12_done 0 = .ok (.iload_n 1, 1) := by decide +kernel
theorem dX12_done_1 : decode cX12_done 1 = .ok (.ifCond .ne 15, 3) := by decide +kernel
theorem dX12_done_4 : decode cX12_done 4 = .ok (.aload_n 0, 1) := by decide +kernel
theorem dX12_done_5 : decode cX12_done 5 = .ok (.sipush 1386, 3) := by decide +kernel
theorem dX12_done_8 : decode cX12_done 8 = .ok (.iload_n 2, 1) := by decide +kernel
theorem dX12_done_9 : decode cX12_done 9 = .ok (.iload_n 3, 1) := by decide +kernel
theorem dX12_done_10 : decode cX12_done 10 = .ok (.invokevirtual 346, 3) := by decide +kernel
theorem dX12_done_13 : decode cX12_done 13 = .ok (.goto 45, 3) := by decide +kernel
theorem dX12_done_16 : decode cX12_done 16 = .ok (.iload_n 1, 1) := by decide +kernel
theorem dX12_done_17 : decode cX12_done 17 = .ok (.iconst 2, 1) := by decide +kernel
theorem dX12_done_18 : decode cX12_done 18 = .ok (.if_icmp .ne 14, 3) := by decide +kernel
theorem dX12_done_21 : decode cX12_done 21 = .ok (.aload_n 0, 1) := by decide +kernel
theorem dX12_done_22 : decode cX12_done 22 = .ok (.sipush 1386, 3) := by decide +kernel
theorem dX12_done_25 : decode cX12_done 25 = .ok (.iload_n 2, 1) := by decide +kernel
theorem dX12_done_26 : decode cX12_done 26 = .ok (.invokevirtual 358, 3) := by decide +kernel
theorem dX12_done_29 : decode cX12_done 29 = .ok (.goto 29, 3) := by decide +kernel
theorem dX12_done_32 : decode cX12_done 32 = .ok (.iload_n 1, 1) := by decide +kernel
theorem dX12_done_33 : decode cX12_done 33 = .ok (.iconst 1, 1) := by decide +kernel
theorem dX12_done_34 : decode cX12_done 34 = .ok (.if_icmp .eq 19, 3) := by decide +kernel
theorem dX12_done_37 : decode cX12_done 37 = .ok (.iload_n 1, 1) := by decide +kernel
theorem dX12_done_38 : decode cX12_done 38 = .ok (.iconst 5, 1) := by decide +kernel
theorem dX12_done_39 : decode cX12_done 39 = .ok (.if_icmp .eq 14, 3) := by decide +kernel
theorem dX12_done_42 : decode cX12_done 42 = .ok (.aload_n 0, 1) := by decide +kernel
theorem dX12_done_43 : decode cX12_done 43 = .ok (.sipush 1386, 3) := by decide +kernel
theorem dX12_done_46 : decode cX12_done 46 = .ok (.iload_n 2, 1) := by decide +kernel
theorem dX12_done_47 : decode cX12_done 47 = .ok (.invokevirtual 287, 3) := by decide +kernel
theorem dX12_done_50 : decode cX12_done 50 = .ok (.ifCond .eq 7, 3) := by decide +kernel
theorem dX12_done_53 : decode cX12_done 53 = .ok (.iconst 1, 1) := by decide +kernel
theorem dX12_done_54 : decode cX12_done 54 = .ok (.goto 4, 3) := by decide +kernel
theorem dX12_done_57 : decode cX12_done 57 = .ok (.iconst 0, 1) := by decide +kernel
theorem dX12_done_58 : decode cX12_done 58 = .ok (.istore 4, 2) := by decide +kernel
theorem dX12_done_60 : decode cX12_done 60 = .ok (.aload_n 0, 1) := by decide +kernel
theorem dX12_done_61 : decode cX12_done 61 = .ok (.iconst 0, 1) := by decide +kernel
theorem dX12_done_62 : decode cX12_done 62 = .ok (.putfield 364, 3) := by decide +kernel
theorem dX12_done_65 : decode cX12_done 65 = .ok (.iload 4, 2) := by decide +kernel
theorem dX12_done_67 : decode cX12_done 67 = .ok (.ifCond .eq 21, 3) := by decide +kernel
theorem dX12_done_70 : decode cX12_done 70 = .ok (.iload_n 1, 1) := by decide +kernel
theorem dX12_done_71 : decode cX12_done 71 = .ok (.ifCond .ne 17, 3) := by decide +kernel
theorem dX12_done_74 : decode cX12_done 74 = .ok (.aload_n 0, 1) := by decide +kernel
theorem dX12_done_75 : decode cX12_done 75 = .ok (.getfield 119, 3) := by decide +kernel
theorem dX12_done_78 : decode cX12_done 78 = .ok (.sipush 1387, 3) := by decide +kernel
theorem dX12_done_81 : decode cX12_done 81 = .ok (.iload_n 2, 1) := by decide +kernel
theorem dX12_done_82 : decode cX12_done 82 = .ok (.iadd, 1) := by decide +kernel
theorem dX12_done_83 : decode cX12_done 83 = .ok (.iload_n 3, 1) := by decide +kernel
theorem dX12_done_84 : decode cX12_done 84 = .ok (.iastore, 1) := by decide +kernel
theorem dX12_done_85 : decode cX12_done 85 = .ok (.goto 146, 3) := by decide +kernel
theorem dX12_done_88 : decode cX12_done 88 = .ok (.iload 4, 2) := by decide +kernel
theorem dX12_done_90 : decode cX12_done 90 = .ok (.ifCond .eq 42, 3) := by decide +kernel
theorem dX12_done_93 : decode cX12_done 93 = .ok (.iload_n 1, 1) := by decide +kernel
theorem dX12_done_94 : decode cX12_done 94 = .ok (.iconst 1, 1) := by decide +kernel
theorem dX12_done_95 : decode cX12_done 95 = .ok (.if_icmp .ne 37, 3) := by decide +kernel
theorem dX12_done_98 : decode cX12_done 98 = .ok (.aload_n 0, 1) := by decide +kernel
theorem dX12_done_99 : decode cX12_done 99 = .ok (.aload_n 0, 1) := by decide +kernel
theorem dX12_done_100 : decode cX12_done 100 = .ok (.sipush 1386, 3) := by decide +kernel
theorem dX12_done_103 : decode cX12_done 103 = .ok (.iload_n 2, 1) := by decide +kernel
theorem dX12_done_104 : decode cX12_done 104 = .ok (.iload_n 3, 1) := by decide +kernel
theorem dX12_done_105 : decode cX12_done 105 = .ok (.aload_n 0, 1) := by decide +kernel
theorem dX12_done_106 : decode cX12_done 106 = .ok (.getfield 119, 3) := by decide +kernel
theorem dX12_done_109 : decode cX12_done 109 = .ok (.sipush 1387, 3) := by decide +kernel
theorem dX12_done_112 : decode cX12_done 112 = .ok (.iload_n 2, 1) := by decide +kernel
theorem dX12_done_113 : decode cX12_done 113 = .ok (.iadd, 1) := by decide +kernel
theorem dX12_done_114 : decode cX12_done 114 = .ok (.iaload, 1) := by decide +kernel
theorem dX12_done_115 : decode cX12_done 115 = .ok (.invokevirtual 355, 3) := by decide +kernel
theorem dX12_done_118 : decode cX12_done 118 = .ok (.ifCond .ne 7, 3) := by decide +kernel
theorem dX12_done_121 : decode cX12_done 121 = .ok (.iconst 1, 1) := by decide +kernel
theorem dX12_done_122 : decode cX12_done 122 = .ok (.goto 4, 3) := by decide +kernel
theorem dX12_done_125 : decode cX12_done 125 = .ok (.iconst 0, 1) := by decide +kernel
theorem dX12_done_126 : decode cX12_done 126 = .ok (.putfield 364, 3) := by decide +kernel
theorem dX12_done_129 : decode cX12_done 129 = .ok (.goto 102, 3) := by decide +kernel
theorem dX12_done_132 : decode cX12_done 132 = .ok (.iload 4, 2) := by decide +kernel
theorem dX12_done_134 : decode cX12_done 134 = .ok (.ifCond .eq 25, 3) := by decide +kernel
theorem dX12_done_137 : decode cX12_done 137 = .ok (.iload_n 1, 1) := by decide +kernel
theorem dX12_done_138 : decode cX12_done 138 = .ok (.iconst 2, 1) := by decide +kernel
theorem dX12_done_139 : decode cX12_done 139 = .ok (.if_icmp .ne 20, 3) := by decide +kernel
theorem dX12_done_142 : decode cX12_done 142 = .ok (.aload_n 0, 1) := by decide +kernel
theorem dX12_done_143 : decode cX12_done 143 = .ok (.getfield 119, 3) := by decide +kernel
theorem dX12_done_146 : decode cX12_done 146 = .ok (.sipush 1404, 3) := by decide +kernel
theorem dX12_done_149 : decode cX12_done 149 = .ok (.iload_n 2, 1) := by decide +kernel
theorem dX12_done_150 : decode cX12_done 150 = .ok (.iadd, 1) := by decide +kernel
theorem dX12_done_151 : decode cX12_done 151 = .ok (.dup2, 1) := by decide +kernel
theorem dX12_done_152 : decode cX12_done 152 = .ok (.iaload, 1) := by decide +kernel
theorem dX12_done_153 : decode cX12_done 153 = .ok (.iconst 1, 1) := by decide +kernel
theorem dX12_done_154 : decode cX12_done 154 = .ok (.isub, 1) := by decide +kernel
theorem dX12_done_155 : decode cX12_done 155 = .ok (.iastore, 1) := by decide +kernel
theorem dX12_done_156 : decode cX12_done 156 = .ok (.goto 75, 3) := by decide +kernel
theorem dX12_done_159 : decode cX12_done 159 = .ok (.iload 4, 2) := by decide +kernel
theorem dX12_done_161 : decode cX12_done 161 = .ok (.ifCond .eq 33, 3) := by decide +kernel
theorem dX12_done_164 : decode cX12_done 164 = .ok (.iload_n 1, 1) := by decide +kernel
theorem dX12_done_165 : decode cX12_done 165 = .ok (.iconst 3, 1) := by decide +kernel
theorem dX12_done_166 : decode cX12_done 166 = .ok (.if_icmp .ne 28, 3) := by decide +kernel
theorem dX12_done_169 : decode cX12_done 169 = .ok (.aload_n 0, 1) := by decide +kernel
theorem dX12_done_170 : decode cX12_done 170 = .ok (.getfield 119, 3) := by decide +kernel
theorem dX12_done_173 : decode cX12_done 173 = .ok (.sipush 1392, 3) := by decide +kernel
theorem dX12_done_176 : decode cX12_done 176 = .ok (.iload_n 2, 1) := by decide +kernel
theorem dX12_done_177 : decode cX12_done 177 = .ok (.iadd, 1) := by decide +kernel
theorem dX12_done_178 : decode cX12_done 178 = .ok (.iconst 1, 1) := by decide +kernel
theorem dX12_done_179 : decode cX12_done 179 = .ok (.aload_n 0, 1) := by decide +kernel
theorem dX12_done_180 : decode cX12_done 180 = .ok (.getfield 119, 3) := by decide +kernel
theorem dX12_done_183 : decode cX12_done 183 = .ok (.sipush 1392, 3) := by decide +kernel
theorem dX12_done_186 : decode cX12_done 186 = .ok (.iload_n 2, 1) := by decide +kernel
theorem dX12_done_187 : decode cX12_done 187 = .ok (.iadd, 1) := by decide +kernel
theorem dX12_done_188 : decode cX12_done 188 = .ok (.iaload, 1) := by decide +kernel
theorem dX12_done_189 : decode cX12_done 189 = .ok (.isub, 1) := by decide +kernel
theorem dX12_done_190 : decode cX12_done 190 = .ok (.iastore, 1) := by decide +kernel
theorem dX12_done_191 : decode cX12_done 191 = .ok (.goto 40, 3) := by decide +kernel
theorem dX12_done_194 : decode cX12_done 194 = .ok (.iload 4, 2) := by decide +kernel
theorem dX12_done_196 : decode cX12_done 196 = .ok (.ifCond .eq 22, 3) := by decide +kernel
theorem dX12_done_199 : decode cX12_done 199 = .ok (.iload_n 1, 1) := by decide +kernel
theorem dX12_done_200 : decode cX12_done 200 = .ok (.iconst 4, 1) := by decide +kernel
theorem dX12_done_201 : decode cX12_done 201 = .ok (.if_icmp .ne 17, 3) := by decide +kernel
theorem dX12_done_204 : decode cX12_done 204 = .ok (.aload_n 0, 1) := by decide +kernel
theorem dX12_done_205 : decode cX12_done 205 = .ok (.getfield 119, 3) := by decide +kernel
theorem dX12_done_208 : decode cX12_done 208 = .ok (.sipush 1398, 3) := by decide +kernel
theorem dX12_done_211 : decode cX12_done 211 = .ok (.iload_n 2, 1) := by decide +kernel
theorem dX12_done_212 : decode cX12_done 212 = .ok (.iadd, 1) := by decide +kernel
theorem dX12_done_213 : decode cX12_done 213 = .ok (.iconst 1, 1) := by decide +kernel
theorem dX12_done_214 : decode cX12_done 214 = .ok (.iastore, 1) := by decide +kernel
theorem dX12_done_215 : decode cX12_done 215 = .ok (.goto 16, 3) := by decide +kernel
theorem dX12_done_218 : decode cX12_done 218 = .ok (.iload 4, 2) := by decide +kernel
theorem dX12_done_220 : decode cX12_done 220 = .ok (.ifCond .eq 11, 3) := by decide +kernel
theorem dX12_done_223 : decode cX12_done 223 = .ok (.aload_n 0, 1) := by decide +kernel
theorem dX12_done_224 : decode cX12_done 224 = .ok (.sipush 1386, 3) := by decide +kernel
theorem dX12_done_227 : decode cX12_done 227 = .ok (.invokevirtual 361, 3) := by decide +kernel
theorem dX12_done_230 : decode cX12_done 230 = .ok (.pop, 1) := by decide +kernel
theorem dX12_done_231 : decode cX12_done 231 = .ok (.iload 4, 2) := by decide +kernel
theorem dX12_done_233 : decode cX12_done 233 = .ok (.ireturn, 1) := by decide +kernel
theorem dX12_judged_0 : decode cX12_judged 0 = .ok (.aload_n 0, 1) := by decide +kernel
theorem dX12_judged_1 : decode cX12_judged 1 = .ok (.iconst 0, 1) := by decide +kernel
theorem dX12_judged_2 : decode cX12_judged 2 = .ok (.putfield 1, 3) := by decide +kernel
theorem dX12_judged_5 : decode cX12_judged 5 = .ok (.iload_n 1, 1) := by decide +kernel
theorem dX12_judged_6 : decode cX12_judged 6 = .ok (.iconst 0, 1) := by decide +kernel
theorem dX12_judged_7 : decode cX12_judged 7 = .ok (.iconst 2, 1) := by decide +kernel
theorem dX12_judged_8 : decode cX12_judged 8 = .ok (.invokestatic 198, 3) := by decide +kernel
theorem dX12_judged_11 : decode cX12_judged 11 = .ok (.ifCond .ne 6, 3) := by decide +kernel
theorem dX12_judged_14 : decode cX12_judged 14 = .ok (.bipush (-2), 2) := by decide +kernel
theorem dX12_judged_16 : decode cX12_judged 16 = .ok (.ireturn, 1) := by decide +kernel
theorem dX12_judged_17 : decode cX12_judged 17 = .ok (.aload_n 0, 1) := by decide +kernel
theorem dX12_judged_18 : decode cX12_judged 18 = .ok (.sipush 1386, 3) := by decide +kernel
theorem dX12_judged_21 : decode cX12_judged 21 = .ok (.invokevirtual 269, 3) := by decide +kernel
theorem dX12_judged_24 : decode cX12_judged 24 = .ok (.iconst (-1), 1) := by decide +kernel
theorem dX12_judged_25 : decode cX12_judged 25 = .ok (.istore_n 2, 1) := by decide +kernel
theorem dX12_judged_26 : decode cX12_judged 26 = .ok (.iconst (-1), 1) := by decide +kernel
theorem dX12_judged_27 : decode cX12_judged 27 = .ok (.istore_n 3, 1) := by decide +kernel
theorem dX12_judged_28 : decode cX12_judged 28 = .ok (.iconst 0, 1) := by decide +kernel
theorem dX12_judged_29 : decode cX12_judged 29 = .ok (.istore 4, 2) := by decide +kernel
theorem dX12_judged_31 : decode cX12_judged 31 = .ok (.iload 4, 2) := by decide +kernel
theorem dX12_judged_33 : decode cX12_judged 33 = .ok (.aload_n 0, 1) := by decide +kernel
theorem dX12_judged_34 : decode cX12_judged 34 = .ok (.getfield 110, 3) := by decide +kernel
theorem dX12_judged_37 : decode cX12_judged 37 = .ok (.iconst 0, 1) := by decide +kernel
theorem dX12_judged_38 : decode cX12_judged 38 = .ok (.iaload, 1) := by decide +kernel
theorem dX12_judged_39 : decode cX12_judged 39 = .ok (.if_icmp .ge 82, 3) := by decide +kernel
theorem dX12_judged_42 : decode cX12_judged 42 = .ok (.aload_n 0, 1) := by decide +kernel
theorem dX12_judged_43 : decode cX12_judged 43 = .ok (.aload_n 0, 1) := by decide +kernel
theorem dX12_judged_44 : decode cX12_judged 44 = .ok (.getfield 110, 3) := by decide +kernel
theorem dX12_judged_47 : decode cX12_judged 47 = .ok (.iconst 1, 1) := by decide +kernel
theorem dX12_judged_48 : decode cX12_judged 48 = .ok (.iconst 3, 1) := by decide +kernel
theorem dX12_judged_49 : decode cX12_judged 49 = .ok (.iload 4, 2) := by decide +kernel
theorem dX12_judged_51 : decode cX12_judged 51 = .ok (.imul, 1) := by decide +kernel
theorem dX12_judged_52 : decode cX12_judged 52 = .ok (.iadd, 1) := by decide +kernel
theorem dX12_judged_53 : decode cX12_judged 53 = .ok (.iaload, 1) := by decide +kernel
theorem dX12_judged_54 : decode cX12_judged 54 = .ok (.aload_n 0, 1) := by decide +kernel
theorem dX12_judged_55 : decode cX12_judged 55 = .ok (.getfield 110, 3) := by decide +kernel
theorem dX12_judged_58 : decode cX12_judged 58 = .ok (.iconst 2, 1) := by decide +kernel
theorem dX12_judged_59 : decode cX12_judged 59 = .ok (.iconst 3, 1) := by decide +kernel
theorem dX12_judged_60 : decode cX12_judged 60 = .ok (.iload 4, 2) := by decide +kernel
theorem dX12_judged_62 : decode cX12_judged 62 = .ok (.imul, 1) := by decide +kernel
theorem dX12_judged_63 : decode cX12_judged 63 = .ok (.iadd, 1) := by decide +kernel
theorem dX12_judged_64 : decode cX12_judged 64 = .ok (.iaload, 1) := by decide +kernel
theorem dX12_judged_65 : decode cX12_judged 65 = .ok (.aload_n 0, 1) := by decide +kernel
theorem dX12_judged_66 : decode cX12_judged 66 = .ok (.getfield 110, 3) := by decide +kernel
theorem dX12_judged_69 : decode cX12_judged 69 = .ok (.iconst 3, 1) := by decide +kernel
theorem dX12_judged_70 : decode cX12_judged 70 = .ok (.iconst 3, 1) := by decide +kernel
theorem dX12_judged_71 : decode cX12_judged 71 = .ok (.iload 4, 2) := by decide +kernel
theorem dX12_judged_73 : decode cX12_judged 73 = .ok (.imul, 1) := by decide +kernel
theorem dX12_judged_74 : decode cX12_judged 74 = .ok (.iadd, 1) := by decide +kernel
theorem dX12_judged_75 : decode cX12_judged 75 = .ok (.iaload, 1) := by decide +kernel
theorem dX12_judged_76 : decode cX12_judged 76 = .ok (.invokevirtual 368, 3) := by decide +kernel
theorem dX12_judged_79 : decode cX12_judged 79 = .ok (.istore 5, 2) := by decide +kernel
theorem dX12_judged_81 : decode cX12_judged 81 = .ok (.iload 5, 2) := by decide +kernel
theorem dX12_judged_83 : decode cX12_judged 83 = .ok (.ifCond .ne 12, 3) := by decide +kernel
theorem dX12_judged_86 : decode cX12_judged 86 = .ok (.iload_n 2, 1) := by decide +kernel
theorem dX12_judged_87 : decode cX12_judged 87 = .ok (.ifCond .ge 8, 3) := by decide +kernel
theorem dX12_judged_90 : decode cX12_judged 90 = .ok (.iload 4, 2) := by decide +kernel
theorem dX12_judged_92 : decode cX12_judged 92 = .ok (.goto 4, 3) := by decide +kernel
theorem dX12_judged_95 : decode cX12_judged 95 = .ok (.iload_n 2, 1) := by decide +kernel
theorem dX12_judged_96 : decode cX12_judged 96 = .ok (.istore_n 2, 1) := by decide +kernel
theorem dX12_judged_97 : decode cX12_judged 97 = .ok (.aload_n 0, 1) := by decide +kernel
theorem dX12_judged_98 : decode cX12_judged 98 = .ok (.getfield 364, 3) := by decide +kernel
theorem dX12_judged_101 : decode cX12_judged 101 = .ok (.ifCond .eq 12, 3) := by decide +kernel
theorem dX12_judged_104 : decode cX12_judged 104 = .ok (.iload_n 3, 1) := by decide +kernel
theorem dX12_judged_105 : decode cX12_judged 105 = .ok (.ifCond .ge 8, 3) := by decide +kernel
theorem dX12_judged_108 : decode cX12_judged 108 = .ok (.iload 4, 2) := by decide +kernel
theorem dX12_judged_110 : decode cX12_judged 110 = .ok (.goto 4, 3) := by decide +kernel
theorem dX12_judged_113 : decode cX12_judged 113 = .ok (.iload_n 3, 1) := by decide +kernel
theorem dX12_judged_114 : decode cX12_judged 114 = .ok (.istore_n 3, 1) := by decide +kernel
theorem dX12_judged_115 : decode cX12_judged 115 = .ok (.iinc 4 1, 3) := by decide +kernel
theorem dX12_judged_118 : decode cX12_judged 118 = .ok (.goto (-87), 3) := by decide +kernel
theorem dX12_judged_121 : decode cX12_judged 121 = .ok (.iload_n 1, 1) := by decide +kernel
theorem dX12_judged_122 : decode cX12_judged 122 = .ok (.ifCond .ne 7, 3) := by decide +kernel
theorem dX12_judged_125 : decode cX12_judged 125 = .ok (.iload_n 2, 1) := by decide +kernel
theorem dX12_judged_126 : decode cX12_judged 126 = .ok (.goto 22, 3) := by decide +kernel
theorem dX12_judged_129 : decode cX12_judged 129 = .ok (.iload_n 1, 1) := by decide +kernel
theorem dX12_judged_130 : decode cX12_judged 130 = .ok (.iconst 1, 1) := by decide +kernel
theorem dX12_judged_131 : decode cX12_judged 131 = .ok (.if_icmp .ne 7, 3) := by decide +kernel
theorem dX12_judged_134 : decode cX12_judged 134 = .ok (.iload_n 3, 1) := by decide +kernel
theorem dX12_judged_135 : decode cX12_judged 135 = .ok (.goto 13, 3) := by decide +kernel
theorem dX12_judged_138 : decode cX12_judged 138 = .ok (.aload_n 0, 1) := by decide +kernel
theorem dX12_judged_139 : decode cX12_judged 139 = .ok (.sipush 1386, 3) := by decide +kernel
theorem dX12_judged_142 : decode cX12_judged 142 = .ok (.iconst (-1), 1) := by decide +kernel
theorem dX12_judged_143 : decode cX12_judged 143 = .ok (.bipush 6, 2) := by decide +kernel
theorem dX12_judged_145 : decode cX12_judged 145 = .ok (.invokevirtual 371, 3) := by decide +kernel
theorem dX12_judged_148 : decode cX12_judged 148 = .ok (.ireturn, 1) := by decide +kernel
theorem dX12_shame_0 : decode cX12_shame 0 = .ok (.aload_n 0, 1) := by decide +kernel
theorem dX12_shame_1 : decode cX12_shame 1 = .ok (.iconst 0, 1) := by decide +kernel
theorem dX12_shame_2 : decode cX12_shame 2 = .ok (.putfield 1, 3) := by decide +kernel
theorem dX12_shame_5 : decode cX12_shame 5 = .ok (.aload_n 0, 1) := by decide +kernel
theorem dX12_shame_6 : decode cX12_shame 6 = .ok (.iload_n 1, 1) := by decide +kernel
theorem dX12_shame_7 : decode cX12_shame 7 = .ok (.invokevirtual 343, 3) := by decide +kernel
theorem dX12_shame_10 : decode cX12_shame 10 = .ok (.ifCond .eq 14, 3) := by decide +kernel
theorem dX12_shame_13 : decode cX12_shame 13 = .ok (.aload_n 0, 1) := by decide +kernel
theorem dX12_shame_14 : decode cX12_shame 14 = .ok (.iconst 0, 1) := by decide +kernel
theorem dX12_shame_15 : decode cX12_shame 15 = .ok (.iload_n 1, 1) := by decide +kernel
theorem dX12_shame_16 : decode cX12_shame 16 = .ok (.bipush 6, 2) := by decide +kernel
theorem dX12_shame_18 : decode cX12_shame 18 = .ok (.invokevirtual 371, 3) := by decide +kernel
theorem dX12_shame_21 : decode cX12_shame 21 = .ok (.goto 4, 3) := by decide +kernel
theorem dX12_shame_24 : decode cX12_shame 24 = .ok (.iconst (-1), 1) := by decide +kernel
theorem dX12_shame_25 : decode cX12_shame 25 = .ok (.ireturn, 1) := by decide +kernel
theorem dX12_harm_0 : decode cX12_harm 0 = .ok (.aload_n 0, 1) := by decide +kernel
theorem dX12_harm_1 : decode cX12_harm 1 = .ok (.iconst 0, 1) := by decide +kernel
theorem dX12_harm_2 : decode cX12_harm 2 = .ok (.putfield 1, 3) := by decide +kernel
theorem dX12_harm_5 : decode cX12_harm 5 = .ok (.aload_n 0, 1) := by decide +kernel
theorem dX12_harm_6 : decode cX12_harm 6 = .ok (.iconst 0, 1) := by decide +kernel
theorem dX12_harm_7 : decode cX12_harm 7 = .ok (.iconst (-1), 1) := by decide +kernel
theorem dX12_harm_8 : decode cX12_harm 8 = .ok (.bipush 6, 2) := by decide +kernel
theorem dX12_harm_10 : decode cX12_harm 10 = .ok (.invokevirtual 371, 3) := by decide +kernel
theorem dX12_harm_13 : decode cX12_harm 13 = .ok (.ireturn, 1) := by decide +kernel
theorem dX12_memory_0 : decode cX12_memory 0 = .ok (.aload_n 0, 1) := by decide +kernel
theorem dX12_memory_1 : decode cX12_memory 1 = .ok (.iconst 0, 1) := by decide +kernel
theorem dX12_memory_2 : decode cX12_memory 2 = .ok (.putfield 1, 3) := by decide +kernel
theorem dX12_memory_5 : decode cX12_memory 5 = .ok (.iload_n 1, 1) := by decide +kernel
theorem dX12_memory_6 : decode cX12_memory 6 = .ok (.iconst 1, 1) := by decide +kernel
theorem dX12_memory_7 : decode cX12_memory 7 = .ok (.bipush 6, 2) := by decide +kernel
theorem dX12_memory_9 : decode cX12_memory 9 = .ok (.invokestatic 198, 3) := by decide +kernel
theorem dX12_memory_12 : decode cX12_memory 12 = .ok (.ifCond .eq 13, 3) := by decide +kernel
theorem dX12_memory_15 : decode cX12_memory 15 = .ok (.aload_n 0, 1) := by decide +kernel
theorem dX12_memory_16 : decode cX12_memory 16 = .ok (.iconst 0, 1) := by decide +kernel
theorem dX12_memory_17 : decode cX12_memory 17 = .ok (.iconst (-1), 1) := by decide +kernel
theorem dX12_memory_18 : decode cX12_memory 18 = .ok (.iload_n 1, 1) := by decide +kernel
theorem dX12_memory_19 : decode cX12_memory 19 = .ok (.invokevirtual 371, 3) := by decide +kernel
theorem dX12_memory_22 : decode cX12_memory 22 = .ok (.goto 4, 3) := by decide +kernel
theorem dX12_memory_25 : decode cX12_memory 25 = .ok (.iconst (-1), 1) := by decide +kernel
theorem dX12_memory_26 : decode cX12_memory 26 = .ok (.ireturn, 1) := by decide +kernel
theorem dX12_trail_0 : decode cX12_trail 0 = .ok (.aload_n 0, 1) := by decide +kernel
theorem dX12_trail_1 : decode cX12_trail 1 = .ok (.iconst 0, 1) := by decide +kernel
theorem dX12_trail_2 : decode cX12_trail 2 = .ok (.putfield 1, 3) := by decide +kernel
theorem dX12_trail_5 : decode cX12_trail 5 = .ok (.aload_n 0, 1) := by decide +kernel
theorem dX12_trail_6 : decode cX12_trail 6 = .ok (.iload_n 1, 1) := by decide +kernel
theorem dX12_trail_7 : decode cX12_trail 7 = .ok (.invokevirtual 343, 3) := by decide +kernel
theorem dX12_trail_10 : decode cX12_trail 10 = .ok (.ifCond .ne 5, 3) := by decide +kernel
theorem dX12_trail_13 : decode cX12_trail 13 = .ok (.iconst (-1), 1) := by decide +kernel
theorem dX12_trail_14 : decode cX12_trail 14 = .ok (.ireturn, 1) := by decide +kernel
theorem dX12_trail_15 : decode cX12_trail 15 = .ok (.iconst 0, 1) := by decide +kernel
theorem dX12_trail_16 : decode cX12_trail 16 = .ok (.istore_n 2, 1) := by decide +kernel
theorem dX12_trail_17 : decode cX12_trail 17 = .ok (.iconst 0, 1) := by decide +kernel
theorem dX12_trail_18 : decode cX12_trail 18 = .ok (.istore_n 3, 1) := by decide +kernel
theorem dX12_trail_19 : decode cX12_trail 19 = .ok (.iload_n 3, 1) := by decide +kernel
theorem dX12_trail_20 : decode cX12_trail 20 = .ok (.aload_n 0, 1) := by decide +kernel
theorem dX12_trail_21 : decode cX12_trail 21 = .ok (.invokevirtual 278, 3) := by decide +kernel
theorem dX12_trail_24 : decode cX12_trail 24 = .ok (.if_icmp .ge 77, 3) := by decide +kernel
theorem dX12_trail_27 : decode cX12_trail 27 = .ok (.iconst 0, 1) := by decide +kernel
theorem dX12_trail_28 : decode cX12_trail 28 = .ok (.istore 4, 2) := by decide +kernel
theorem dX12_trail_30 : decode cX12_trail 30 = .ok (.iload 4, 2) := by decide +kernel
theorem dX12_trail_32 : decode cX12_trail 32 = .ok (.aload_n 0, 1) := by decide +kernel
theorem dX12_trail_33 : decode cX12_trail 33 = .ok (.getfield 119, 3) := by decide +kernel
theorem dX12_trail_36 : decode cX12_trail 36 = .ok (.bipush 18, 2) := by decide +kernel
theorem dX12_trail_38 : decode cX12_trail 38 = .ok (.iload_n 3, 1) := by decide +kernel
theorem dX12_trail_39 : decode cX12_trail 39 = .ok (.iadd, 1) := by decide +kernel
theorem dX12_trail_40 : decode cX12_trail 40 = .ok (.iaload, 1) := by decide +kernel
theorem dX12_trail_41 : decode cX12_trail 41 = .ok (.if_icmp .ge 54, 3) := by decide +kernel
theorem dX12_trail_44 : decode cX12_trail 44 = .ok (.aload_n 0, 1) := by decide +kernel
theorem dX12_trail_45 : decode cX12_trail 45 = .ok (.iconst 0, 1) := by decide +kernel
theorem dX12_trail_46 : decode cX12_trail 46 = .ok (.iload_n 3, 1) := by decide +kernel
theorem dX12_trail_47 : decode cX12_trail 47 = .ok (.invokevirtual 324, 3) := by decide +kernel
theorem dX12_trail_50 : decode cX12_trail 50 = .ok (.ifCond .eq 45, 3) := by decide +kernel
theorem dX12_trail_53 : decode cX12_trail 53 = .ok (.aload_n 0, 1) := by decide +kernel
theorem dX12_trail_54 : decode cX12_trail 54 = .ok (.iconst 0, 1) := by decide +kernel
theorem dX12_trail_55 : decode cX12_trail 55 = .ok (.iload_n 3, 1) := by decide +kernel
theorem dX12_trail_56 : decode cX12_trail 56 = .ok (.iload 4, 2) := by decide +kernel
theorem dX12_trail_58 : decode cX12_trail 58 = .ok (.invokevirtual 300, 3) := by decide +kernel
theorem dX12_trail_61 : decode cX12_trail 61 = .ok (.istore 5, 2) := by decide +kernel
theorem dX12_trail_63 : decode cX12_trail 63 = .ok (.iload_n 2, 1) := by decide +kernel
theorem dX12_trail_64 : decode cX12_trail 64 = .ok (.aload_n 0, 1) := by decide +kernel
theorem dX12_trail_65 : decode cX12_trail 65 = .ok (.iconst 0, 1) := by decide +kernel
theorem dX12_trail_66 : decode cX12_trail 66 = .ok (.iload_n 3, 1) := by decide +kernel
theorem dX12_trail_67 : decode cX12_trail 67 = .ok (.iload 5, 2) := by decide +kernel
theorem dX12_trail_69 : decode cX12_trail 69 = .ok (.invokevirtual 327, 3) := by decide +kernel
theorem dX12_trail_72 : decode cX12_trail 72 = .ok (.iload_n 1, 1) := by decide +kernel
theorem dX12_trail_73 : decode cX12_trail 73 = .ok (.if_icmp .ne 13, 3) := by decide +kernel
theorem dX12_trail_76 : decode cX12_trail 76 = .ok (.iconst 1, 1) := by decide +kernel
theorem dX12_trail_77 : decode cX12_trail 77 = .ok (.iload 5, 2) := by decide +kernel
theorem dX12_trail_79 : decode cX12_trail 79 = .ok (.invokestatic 340, 3) := by decide +kernel
theorem dX12_trail_82 : decode cX12_trail 82 = .ok (.ishl, 1) := by decide +kernel
theorem dX12_trail_83 : decode cX12_trail 83 = .ok (.goto 4, 3) := by decide +kernel
theorem dX12_trail_86 : decode cX12_trail 86 = .ok (.iconst 0, 1) := by decide +kernel
theorem dX12_trail_87 : decode cX12_trail 87 = .ok (.ior, 1) := by decide +kernel
theorem dX12_trail_88 : decode cX12_trail 88 = .ok (.istore_n 2, 1) := by decide +kernel
theorem dX12_trail_89 : decode cX12_trail 89 = .ok (.iinc 4 1, 3) := by decide +kernel
theorem dX12_trail_92 : decode cX12_trail 92 = .ok (.goto (-62), 3) := by decide +kernel
theorem dX12_trail_95 : decode cX12_trail 95 = .ok (.iinc 3 1, 3) := by decide +kernel
theorem dX12_trail_98 : decode cX12_trail 98 = .ok (.goto (-79), 3) := by decide +kernel
theorem dX12_trail_101 : decode cX12_trail 101 = .ok (.iload_n 2, 1) := by decide +kernel
theorem dX12_trail_102 : decode cX12_trail 102 = .ok (.ireturn, 1) := by decide +kernel
theorem dX12_last_0 : decode cX12_last 0 = .ok (.aload_n 0, 1) := by decide +kernel
theorem dX12_last_1 : decode cX12_last 1 = .ok (.iconst 0, 1) := by decide +kernel
theorem dX12_last_2 : decode cX12_last 2 = .ok (.putfield 1, 3) := by decide +kernel
theorem dX12_last_5 : decode cX12_last 5 = .ok (.iconst (-1), 1) := by decide +kernel
theorem dX12_last_6 : decode cX12_last 6 = .ok (.istore_n 2, 1) := by decide +kernel
theorem dX12_last_7 : decode cX12_last 7 = .ok (.iconst 0, 1) := by decide +kernel
theorem dX12_last_8 : decode cX12_last 8 = .ok (.istore_n 3, 1) := by decide +kernel
theorem dX12_last_9 : decode cX12_last 9 = .ok (.iconst 0, 1) := by decide +kernel
theorem dX12_last_10 : decode cX12_last 10 = .ok (.istore 4, 2) := by decide +kernel
theorem dX12_last_12 : decode cX12_last 12 = .ok (.iload 4, 2) := by decide +kernel
theorem dX12_last_14 : decode cX12_last 14 = .ok (.aload_n 0, 1) := by decide +kernel
theorem dX12_last_15 : decode cX12_last 15 = .ok (.invokevirtual 278, 3) := by decide +kernel
theorem dX12_last_18 : decode cX12_last 18 = .ok (.if_icmp .ge 126, 3) := by decide +kernel
theorem dX12_last_21 : decode cX12_last 21 = .ok (.aload_n 0, 1) := by decide +kernel
theorem dX12_last_22 : decode cX12_last 22 = .ok (.iload_n 1, 1) := by decide +kernel
theorem dX12_last_23 : decode cX12_last 23 = .ok (.invokevirtual 343, 3) := by decide +kernel
theorem dX12_last_26 : decode cX12_last 26 = .ok (.ifCond .eq 118, 3) := by decide +kernel
theorem dX12_last_29 : decode cX12_last 29 = .ok (.aload_n 0, 1) := by decide +kernel
theorem dX12_last_30 : decode cX12_last 30 = .ok (.getfield 119, 3) := by decide +kernel
theorem dX12_last_33 : decode cX12_last 33 = .ok (.bipush 18, 2) := by decide +kernel
theorem dX12_last_35 : decode cX12_last 35 = .ok (.iload 4, 2) := by decide +kernel
theorem dX12_last_37 : decode cX12_last 37 = .ok (.iadd, 1) := by decide +kernel
theorem dX12_last_38 : decode cX12_last 38 = .ok (.iaload, 1) := by decide +kernel
theorem dX12_last_39 : decode cX12_last 39 = .ok (.iconst 1, 1) := by decide +kernel
theorem dX12_last_40 : decode cX12_last 40 = .ok (.isub, 1) := by decide +kernel
theorem dX12_last_41 : decode cX12_last 41 = .ok (.istore 5, 2) := by decide +kernel
theorem dX12_last_43 : decode cX12_last 43 = .ok (.iload 5, 2) := by decide +kernel
theorem dX12_last_45 : decode cX12_last 45 = .ok (.ifCond .lt 93, 3) := by decide +kernel
theorem dX12_last_48 : decode cX12_last 48 = .ok (.aload_n 0, 1) := by decide +kernel
theorem dX12_last_49 : decode cX12_last 49 = .ok (.iconst 0, 1) := by decide +kernel
theorem dX12_last_50 : decode cX12_last 50 = .ok (.iload 4, 2) := by decide +kernel
theorem dX12_last_52 : decode cX12_last 52 = .ok (.invokevirtual 324, 3) := by decide +kernel
theorem dX12_last_55 : decode cX12_last 55 = .ok (.ifCond .eq 83, 3) := by decide +kernel
theorem dX12_last_58 : decode cX12_last 58 = .ok (.aload_n 0, 1) := by decide +kernel
theorem dX12_last_59 : decode cX12_last 59 = .ok (.iconst 0, 1) := by decide +kernel
theorem dX12_last_60 : decode cX12_last 60 = .ok (.iload 4, 2) := by decide +kernel
theorem dX12_last_62 : decode cX12_last 62 = .ok (.iload 5, 2) := by decide +kernel
theorem dX12_last_64 : decode cX12_last 64 = .ok (.invokevirtual 300, 3) := by decide +kernel
theorem dX12_last_67 : decode cX12_last 67 = .ok (.istore 6, 2) := by decide +kernel
theorem dX12_last_69 : decode cX12_last 69 = .ok (.aload_n 0, 1) := by decide +kernel
theorem dX12_last_70 : decode cX12_last 70 = .ok (.iconst 0, 1) := by decide +kernel
theorem dX12_last_71 : decode cX12_last 71 = .ok (.iload 4, 2) := by decide +kernel
theorem dX12_last_73 : decode cX12_last 73 = .ok (.iload 6, 2) := by decide +kernel
theorem dX12_last_75 : decode cX12_last 75 = .ok (.invokevirtual 327, 3) := by decide +kernel
theorem dX12_last_78 : decode cX12_last 78 = .ok (.iload_n 1, 1) := by decide +kernel
theorem dX12_last_79 : decode cX12_last 79 = .ok (.if_icmp .ne 20, 3) := by decide +kernel
theorem dX12_last_82 : decode cX12_last 82 = .ok (.iload_n 2, 1) := by decide +kernel
theorem dX12_last_83 : decode cX12_last 83 = .ok (.ifCond .lt 12, 3) := by decide +kernel
theorem dX12_last_86 : decode cX12_last 86 = .ok (.iload 6, 2) := by decide +kernel
theorem dX12_last_88 : decode cX12_last 88 = .ok (.invokestatic 309, 3) := by decide +kernel
theorem dX12_last_91 : decode cX12_last 91 = .ok (.iload_n 3, 1) := by decide +kernel
theorem dX12_last_92 : decode cX12_last 92 = .ok (.if_icmp .ge 7, 3) := by decide +kernel
theorem dX12_last_95 : decode cX12_last 95 = .ok (.iconst 1, 1) := by decide +kernel
theorem dX12_last_96 : decode cX12_last 96 = .ok (.goto 4, 3) := by decide +kernel
theorem dX12_last_99 : decode cX12_last 99 = .ok (.iconst 0, 1) := by decide +kernel
theorem dX12_last_100 : decode cX12_last 100 = .ok (.istore 7, 2) := by decide +kernel
theorem dX12_last_102 : decode cX12_last 102 = .ok (.iload 7, 2) := by decide +kernel
theorem dX12_last_104 : decode cX12_last 104 = .ok (.ifCond .eq 11, 3) := by decide +kernel
theorem dX12_last_107 : decode cX12_last 107 = .ok (.iload 6, 2) := by decide +kernel
theorem dX12_last_109 : decode cX12_last 109 = .ok (.invokestatic 340, 3) := by decide +kernel
theorem dX12_last_112 : decode cX12_last 112 = .ok (.goto 4, 3) := by decide +kernel
theorem dX12_last_115 : decode cX12_last 115 = .ok (.iload_n 2, 1) := by decide +kernel
theorem dX12_last_116 : decode cX12_last 116 = .ok (.istore_n 2, 1) := by decide +kernel
theorem dX12_last_117 : decode cX12_last 117 = .ok (.iload 7, 2) := by decide +kernel
theorem dX12_last_119 : decode cX12_last 119 = .ok (.ifCond .eq 11, 3) := by decide +kernel
theorem dX12_last_122 : decode cX12_last 122 = .ok (.iload 6, 2) := by decide +kernel
theorem dX12_last_124 : decode cX12_last 124 = .ok (.invokestatic 309, 3) := by decide +kernel
theorem dX12_last_127 : decode cX12_last 127 = .ok (.goto 4, 3) := by decide +kernel
theorem dX12_last_130 : decode cX12_last 130 = .ok (.iload_n 3, 1) := by decide +kernel
theorem dX12_last_131 : decode cX12_last 131 = .ok (.istore_n 3, 1) := by decide +kernel
theorem dX12_last_132 : decode cX12_last 132 = .ok (.iinc 5 (-1), 3) := by decide +kernel
theorem dX12_last_135 : decode cX12_last 135 = .ok (.goto (-92), 3) := by decide +kernel
theorem dX12_last_138 : decode cX12_last 138 = .ok (.iinc 4 1, 3) := by decide +kernel
theorem dX12_last_141 : decode cX12_last 141 = .ok (.goto (-129), 3) := by decide +kernel
theorem dX12_last_144 : decode cX12_last 144 = .ok (.iload_n 2, 1) := by decide +kernel
theorem dX12_last_145 : decode cX12_last 145 = .ok (.ireturn, 1) := by decide +kernel
theorem dX12_worst_0 : decode cX12_worst 0 = .ok (.aload_n 0, 1) := by decide +kernel
theorem dX12_worst_1 : decode cX12_worst 1 = .ok (.iconst 0, 1) := by decide +kernel
theorem dX12_worst_2 : decode cX12_worst 2 = .ok (.putfield 1, 3) := by decide +kernel
theorem dX12_worst_5 : decode cX12_worst 5 = .ok (.iconst (-1), 1) := by decide +kernel
theorem dX12_worst_6 : decode cX12_worst 6 = .ok (.istore_n 1, 1) := by decide +kernel
theorem dX12_worst_7 : decode cX12_worst 7 = .ok (.iconst 0, 1) := by decide +kernel
theorem dX12_worst_8 : decode cX12_worst 8 = .ok (.istore_n 2, 1) := by decide +kernel
theorem dX12_worst_9 : decode cX12_worst 9 = .ok (.iconst 0, 1) := by decide +kernel
theorem dX12_worst_10 : decode cX12_worst 10 = .ok (.istore_n 3, 1) := by decide +kernel
theorem dX12_worst_11 : decode cX12_worst 11 = .ok (.iload_n 3, 1) := by decide +kernel
theorem dX12_worst_12 : decode cX12_worst 12 = .ok (.aload_n 0, 1) := by decide +kernel
theorem dX12_worst_13 : decode cX12_worst 13 = .ok (.invokevirtual 265, 3) := by decide +kernel
theorem dX12_worst_16 : decode cX12_worst 16 = .ok (.if_icmp .ge 44, 3) := by decide +kernel
theorem dX12_worst_19 : decode cX12_worst 19 = .ok (.aload_n 0, 1) := by decide +kernel
theorem dX12_worst_20 : decode cX12_worst 20 = .ok (.iconst 0, 1) := by decide +kernel
theorem dX12_worst_21 : decode cX12_worst 21 = .ok (.iload_n 3, 1) := by decide +kernel
theorem dX12_worst_22 : decode cX12_worst 22 = .ok (.bipush 6, 2) := by decide +kernel
theorem dX12_worst_24 : decode cX12_worst 24 = .ok (.invokevirtual 371, 3) := by decide +kernel
theorem dX12_worst_27 : decode cX12_worst 27 = .ok (.istore 4, 2) := by decide +kernel
theorem dX12_worst_29 : decode cX12_worst 29 = .ok (.iload 4, 2) := by decide +kernel
theorem dX12_worst_31 : decode cX12_worst 31 = .ok (.iload_n 2, 1) := by decide +kernel
theorem dX12_worst_32 : decode cX12_worst 32 = .ok (.if_icmp .le 7, 3) := by decide +kernel
theorem dX12_worst_35 : decode cX12_worst 35 = .ok (.iload_n 3, 1) := by decide +kernel
theorem dX12_worst_36 : decode cX12_worst 36 = .ok (.goto 4, 3) := by decide +kernel
theorem dX12_worst_39 : decode cX12_worst 39 = .ok (.iload_n 1, 1) := by decide +kernel
theorem dX12_worst_40 : decode cX12_worst 40 = .ok (.istore_n 1, 1) := by decide +kernel
theorem dX12_worst_41 : decode cX12_worst 41 = .ok (.iload 4, 2) := by decide +kernel
theorem dX12_worst_43 : decode cX12_worst 43 = .ok (.iload_n 2, 1) := by decide +kernel
theorem dX12_worst_44 : decode cX12_worst 44 = .ok (.if_icmp .le 8, 3) := by decide +kernel
theorem dX12_worst_47 : decode cX12_worst 47 = .ok (.iload 4, 2) := by decide +kernel
theorem dX12_worst_49 : decode cX12_worst 49 = .ok (.goto 4, 3) := by decide +kernel
theorem dX12_worst_52 : decode cX12_worst 52 = .ok (.iload_n 2, 1) := by decide +kernel
theorem dX12_worst_53 : decode cX12_worst 53 = .ok (.istore_n 2, 1) := by decide +kernel
theorem dX12_worst_54 : decode cX12_worst 54 = .ok (.iinc 3 1, 3) := by decide +kernel
theorem dX12_worst_57 : decode cX12_worst 57 = .ok (.goto (-46), 3) := by decide +kernel
theorem dX12_worst_60 : decode cX12_worst 60 = .ok (.iload_n 1, 1) := by decide +kernel
theorem dX12_worst_61 : decode cX12_worst 61 = .ok (.ireturn, 1) := by decide +kernel
theorem dX12_oldest_0 : decode cX12_oldest 0 = .ok (.aload_n 0, 1) := by decide +kernel
theorem dX12_oldest_1 : decode cX12_oldest 1 = .ok (.iconst 0, 1) := by decide +kernel
theorem dX12_oldest_2 : decode cX12_oldest 2 = .ok (.putfield 1, 3) := by decide +kernel
theorem dX12_oldest_5 : decode cX12_oldest 5 = .ok (.iconst (-1), 1) := by decide +kernel
theorem dX12_oldest_6 : decode cX12_oldest 6 = .ok (.istore_n 1, 1) := by decide +kernel
theorem dX12_oldest_7 : decode cX12_oldest 7 = .ok (.iconst (-1), 1) := by decide +kernel
theorem dX12_oldest_8 : decode cX12_oldest 8 = .ok (.istore_n 2, 1) := by decide +kernel
theorem dX12_oldest_9 : decode cX12_oldest 9 = .ok (.iconst 0, 1) := by decide +kernel
theorem dX12_oldest_10 : decode cX12_oldest 10 = .ok (.istore_n 3, 1) := by decide +kernel
theorem dX12_oldest_11 : decode cX12_oldest 11 = .ok (.iload_n 3, 1) := by decide +kernel
theorem dX12_oldest_12 : decode cX12_oldest 12 = .ok (.aload_n 0, 1) := by decide +kernel
theorem dX12_oldest_13 : decode cX12_oldest 13 = .ok (.invokevirtual 278, 3) := by decide +kernel
theorem dX12_oldest_16 : decode cX12_oldest 16 = .ok (.if_icmp .ge 70, 3) := by decide +kernel
theorem dX12_oldest_19 : decode cX12_oldest 19 = .ok (.iconst 0, 1) := by decide +kernel
theorem dX12_oldest_20 : decode cX12_oldest 20 = .ok (.istore 4, 2) := by decide +kernel
theorem dX12_oldest_22 : decode cX12_oldest 22 = .ok (.iload 4, 2) := by decide +kernel
theorem dX12_oldest_24 : decode cX12_oldest 24 = .ok (.aload_n 0, 1) := by decide +kernel
theorem dX12_oldest_25 : decode cX12_oldest 25 = .ok (.getfield 119, 3) := by decide +kernel
theorem dX12_oldest_28 : decode cX12_oldest 28 = .ok (.bipush 18, 2) := by decide +kernel
theorem dX12_oldest_30 : decode cX12_oldest 30 = .ok (.iload_n 3, 1) := by decide +kernel
theorem dX12_oldest_31 : decode cX12_oldest 31 = .ok (.iadd, 1) := by decide +kernel
theorem dX12_oldest_32 : decode cX12_oldest 32 = .ok (.iaload, 1) := by decide +kernel
theorem dX12_oldest_33 : decode cX12_oldest 33 = .ok (.if_icmp .ge 47, 3) := by decide +kernel
theorem dX12_oldest_36 : decode cX12_oldest 36 = .ok (.aload_n 0, 1) := by decide +kernel
theorem dX12_oldest_37 : decode cX12_oldest 37 = .ok (.iconst 0, 1) := by decide +kernel
theorem dX12_oldest_38 : decode cX12_oldest 38 = .ok (.iload_n 3, 1) := by decide +kernel
theorem dX12_oldest_39 : decode cX12_oldest 39 = .ok (.iload 4, 2) := by decide +kernel
theorem dX12_oldest_41 : decode cX12_oldest 41 = .ok (.invokevirtual 300, 3) := by decide +kernel
theorem dX12_oldest_44 : decode cX12_oldest 44 = .ok (.invokestatic 309, 3) := by decide +kernel
theorem dX12_oldest_47 : decode cX12_oldest 47 = .ok (.istore 5, 2) := by decide +kernel
theorem dX12_oldest_49 : decode cX12_oldest 49 = .ok (.iload 5, 2) := by decide +kernel
theorem dX12_oldest_51 : decode cX12_oldest 51 = .ok (.iload_n 2, 1) := by decide +kernel
theorem dX12_oldest_52 : decode cX12_oldest 52 = .ok (.if_icmp .le 7, 3) := by decide +kernel
theorem dX12_oldest_55 : decode cX12_oldest 55 = .ok (.iload_n 3, 1) := by decide +kernel
theorem dX12_oldest_56 : decode cX12_oldest 56 = .ok (.goto 4, 3) := by decide +kernel
theorem dX12_oldest_59 : decode cX12_oldest 59 = .ok (.iload_n 1, 1) := by decide +kernel
theorem dX12_oldest_60 : decode cX12_oldest 60 = .ok (.istore_n 1, 1) := by decide +kernel
theorem dX12_oldest_61 : decode cX12_oldest 61 = .ok (.iload 5, 2) := by decide +kernel
theorem dX12_oldest_63 : decode cX12_oldest 63 = .ok (.iload_n 2, 1) := by decide +kernel
theorem dX12_oldest_64 : decode cX12_oldest 64 = .ok (.if_icmp .le 8, 3) := by decide +kernel
theorem dX12_oldest_67 : decode cX12_oldest 67 = .ok (.iload 5, 2) := by decide +kernel
theorem dX12_oldest_69 : decode cX12_oldest 69 = .ok (.goto 4, 3) := by decide +kernel
theorem dX12_oldest_72 : decode cX12_oldest 72 = .ok (.iload_n 2, 1) := by decide +kernel
theorem dX12_oldest_73 : decode cX12_oldest 73 = .ok (.istore_n 2, 1) := by decide +kernel
theorem dX12_oldest_74 : decode cX12_oldest 74 = .ok (.iinc 4 1, 3) := by decide +kernel
theorem dX12_oldest_77 : decode cX12_oldest 77 = .ok (.goto (-55), 3) := by decide +kernel
theorem dX12_oldest_80 : decode cX12_oldest 80 = .ok (.iinc 3 1, 3) := by decide +kernel
theorem dX12_oldest_83 : decode cX12_oldest 83 = .ok (.goto (-72), 3) := by decide +kernel
theorem dX12_oldest_86 : decode cX12_oldest 86 = .ok (.iload_n 1, 1) := by decide +kernel
theorem dX12_oldest_87 : decode cX12_oldest 87 = .ok (.ireturn, 1) := by decide +kernel
theorem dX12_young_0 : decode cX12_young 0 = .ok (.aload_n 0, 1) := by decide +kernel
theorem dX12_young_1 : decode cX12_young 1 = .ok (.iconst 0, 1) := by decide +kernel
theorem dX12_young_2 : decode cX12_young 2 = .ok (.putfield 1, 3) := by decide +kernel
theorem dX12_young_5 : decode cX12_young 5 = .ok (.iconst 0, 1) := by decide +kernel
theorem dX12_young_6 : decode cX12_young 6 = .ok (.istore_n 2, 1) := by decide +kernel
theorem dX12_young_7 : decode cX12_young 7 = .ok (.iconst 0, 1) := by decide +kernel
theorem dX12_young_8 : decode cX12_young 8 = .ok (.istore_n 3, 1) := by decide +kernel
theorem dX12_young_9 : decode cX12_young 9 = .ok (.iload_n 3, 1) := by decide +kernel
theorem dX12_young_10 : decode cX12_young 10 = .ok (.aload_n 0, 1) := by decide +kernel
theorem dX12_young_11 : decode cX12_young 11 = .ok (.invokevirtual 278, 3) := by decide +kernel
theorem dX12_young_14 : decode cX12_young 14 = .ok (.if_icmp .ge 55, 3) := by decide +kernel
theorem dX12_young_17 : decode cX12_young 17 = .ok (.iconst 0, 1) := by decide +kernel
theorem dX12_young_18 : decode cX12_young 18 = .ok (.istore 4, 2) := by decide +kernel
theorem dX12_young_20 : decode cX12_young 20 = .ok (.iload 4, 2) := by decide +kernel
theorem dX12_young_22 : decode cX12_young 22 = .ok (.aload_n 0, 1) := by decide +kernel
theorem dX12_young_23 : decode cX12_young 23 = .ok (.getfield 119, 3) := by decide +kernel
theorem dX12_young_26 : decode cX12_young 26 = .ok (.bipush 18, 2) := by decide +kernel
theorem dX12_young_28 : decode cX12_young 28 = .ok (.iload_n 3, 1) := by decide +kernel
theorem dX12_young_29 : decode cX12_young 29 = .ok (.iadd, 1) := by decide +kernel
theorem dX12_young_30 : decode cX12_young 30 = .ok (.iaload, 1) := by decide +kernel
theorem dX12_young_31 : decode cX12_young 31 = .ok (.if_icmp .ge 32, 3) := by decide +kernel
theorem dX12_young_34 : decode cX12_young 34 = .ok (.iload_n 2, 1) := by decide +kernel
theorem dX12_young_35 : decode cX12_young 35 = .ok (.aload_n 0, 1) := by decide +kernel
theorem dX12_young_36 : decode cX12_young 36 = .ok (.iconst 0, 1) := by decide +kernel
theorem dX12_young_37 : decode cX12_young 37 = .ok (.iload_n 3, 1) := by decide +kernel
theorem dX12_young_38 : decode cX12_young 38 = .ok (.iload 4, 2) := by decide +kernel
theorem dX12_young_40 : decode cX12_young 40 = .ok (.invokevirtual 300, 3) := by decide +kernel
theorem dX12_young_43 : decode cX12_young 43 = .ok (.invokestatic 309, 3) := by decide +kernel
theorem dX12_young_46 : decode cX12_young 46 = .ok (.iload_n 1, 1) := by decide +kernel
theorem dX12_young_47 : decode cX12_young 47 = .ok (.if_icmp .gt 7, 3) := by decide +kernel
theorem dX12_young_50 : decode cX12_young 50 = .ok (.iconst 1, 1) := by decide +kernel
theorem dX12_young_51 : decode cX12_young 51 = .ok (.goto 4, 3) := by decide +kernel
theorem dX12_young_54 : decode cX12_young 54 = .ok (.iconst 0, 1) := by decide +kernel
theorem dX12_young_55 : decode cX12_young 55 = .ok (.iadd, 1) := by decide +kernel
theorem dX12_young_56 : decode cX12_young 56 = .ok (.istore_n 2, 1) := by decide +kernel
theorem dX12_young_57 : decode cX12_young 57 = .ok (.iinc 4 1, 3) := by decide +kernel
theorem dX12_young_60 : decode cX12_young 60 = .ok (.goto (-40), 3) := by decide +kernel
theorem dX12_young_63 : decode cX12_young 63 = .ok (.iinc 3 1, 3) := by decide +kernel
theorem dX12_young_66 : decode cX12_young 66 = .ok (.goto (-57), 3) := by decide +kernel
theorem dX12_young_69 : decode cX12_young 69 = .ok (.iload_n 2, 1) := by decide +kernel
theorem dX12_young_70 : decode cX12_young 70 = .ok (.ireturn, 1) := by decide +kernel
theorem dX12_cloak_0 : decode cX12_cloak 0 = .ok (.aload_n 0, 1) := by decide +kernel
theorem dX12_cloak_1 : decode cX12_cloak 1 = .ok (.iconst 0, 1) := by decide +kernel
theorem dX12_cloak_2 : decode cX12_cloak 2 = .ok (.putfield 1, 3) := by decide +kernel
theorem dX12_cloak_5 : decode cX12_cloak 5 = .ok (.aload_n 0, 1) := by decide +kernel
theorem dX12_cloak_6 : decode cX12_cloak 6 = .ok (.iload_n 1, 1) := by decide +kernel
theorem dX12_cloak_7 : decode cX12_cloak 7 = .ok (.invokevirtual 343, 3) := by decide +kernel
theorem dX12_cloak_10 : decode cX12_cloak 10 = .ok (.ifCond .eq 14, 3) := by decide +kernel
theorem dX12_cloak_13 : decode cX12_cloak 13 = .ok (.iload_n 2, 1) := by decide +kernel
theorem dX12_cloak_14 : decode cX12_cloak 14 = .ok (.iconst 0, 1) := by decide +kernel
theorem dX12_cloak_15 : decode cX12_cloak 15 = .ok (.sipush 495, 3) := by decide +kernel
theorem dX12_cloak_18 : decode cX12_cloak 18 = .ok (.invokestatic 198, 3) := by decide +kernel
theorem dX12_cloak_21 : decode cX12_cloak 21 = .ok (.ifCond .ne 5, 3) := by decide +kernel
theorem dX12_cloak_24 : decode cX12_cloak 24 = .ok (.iconst (-1), 1) := by decide +kernel
theorem dX12_cloak_25 : decode cX12_cloak 25 = .ok (.ireturn, 1) := by decide +kernel
theorem dX12_cloak_26 : decode cX12_cloak 26 = .ok (.iconst (-1), 1) := by decide +kernel
theorem dX12_cloak_27 : decode cX12_cloak 27 = .ok (.istore_n 3, 1) := by decide +kernel
theorem dX12_cloak_28 : decode cX12_cloak 28 = .ok (.iconst 0, 1) := by decide +kernel
theorem dX12_cloak_29 : decode cX12_cloak 29 = .ok (.istore 4, 2) := by decide +kernel
theorem dX12_cloak_31 : decode cX12_cloak 31 = .ok (.iload 4, 2) := by decide +kernel
theorem dX12_cloak_33 : decode cX12_cloak 33 = .ok (.iconst 1, 1) := by decide +kernel
theorem dX12_cloak_34 : decode cX12_cloak 34 = .ok (.aload_n 0, 1) := by decide +kernel
theorem dX12_cloak_35 : decode cX12_cloak 35 = .ok (.invokevirtual 278, 3) := by decide +kernel
theorem dX12_cloak_38 : decode cX12_cloak 38 = .ok (.ishl, 1) := by decide +kernel
theorem dX12_cloak_39 : decode cX12_cloak 39 = .ok (.if_icmp .ge 157, 3) := by decide +kernel
theorem dX12_cloak_42 : decode cX12_cloak 42 = .ok (.iload_n 3, 1) := by decide +kernel
theorem dX12_cloak_43 : decode cX12_cloak 43 = .ok (.ifCond .lt 15, 3) := by decide +kernel
theorem dX12_cloak_46 : decode cX12_cloak 46 = .ok (.iload 4, 2) := by decide +kernel
theorem dX12_cloak_48 : decode cX12_cloak 48 = .ok (.invokestatic 374, 3) := by decide +kernel
theorem dX12_cloak_51 : decode cX12_cloak 51 = .ok (.iload_n 3, 1) := by decide +kernel
theorem dX12_cloak_52 : decode cX12_cloak 52 = .ok (.invokestatic 374, 3) := by decide +kernel
theorem dX12_cloak_55 : decode cX12_cloak 55 = .ok (.if_icmp .ge 7, 3) := by decide +kernel
theorem dX12_cloak_58 : decode cX12_cloak 58 = .ok (.iconst 1, 1) := by decide +kernel
theorem dX12_cloak_59 : decode cX12_cloak 59 = .ok (.goto 4, 3) := by decide +kernel
theorem dX12_cloak_62 : decode cX12_cloak 62 = .ok (.iconst 0, 1) := by decide +kernel
theorem dX12_cloak_63 : decode cX12_cloak 63 = .ok (.istore 5, 2) := by decide +kernel
theorem dX12_cloak_65 : decode cX12_cloak 65 = .ok (.iconst 0, 1) := by decide +kernel
theorem dX12_cloak_66 : decode cX12_cloak 66 = .ok (.istore 6, 2) := by decide +kernel
theorem dX12_cloak_68 : decode cX12_cloak 68 = .ok (.iconst 0, 1) := by decide +kernel
theorem dX12_cloak_69 : decode cX12_cloak 69 = .ok (.istore 7, 2) := by decide +kernel
theorem dX12_cloak_71 : decode cX12_cloak 71 = .ok (.iload 7, 2) := by decide +kernel
theorem dX12_cloak_73 : decode cX12_cloak 73 = .ok (.aload_n 0, 1) := by decide +kernel
theorem dX12_cloak_74 : decode cX12_cloak 74 = .ok (.invokevirtual 278, 3) := by decide +kernel
theorem dX12_cloak_77 : decode cX12_cloak 77 = .ok (.if_icmp .ge 91, 3) := by decide +kernel
theorem dX12_cloak_80 : decode cX12_cloak 80 = .ok (.iload 4, 2) := by decide +kernel
theorem dX12_cloak_82 : decode cX12_cloak 82 = .ok (.iload 7, 2) := by decide +kernel
theorem dX12_cloak_84 : decode cX12_cloak 84 = .ok (.ishr, 1) := by decide +kernel
theorem dX12_cloak_85 : decode cX12_cloak 85 = .ok (.iconst 1, 1) := by decide +kernel
theorem dX12_cloak_86 : decode cX12_cloak 86 = .ok (.iand, 1) := by decide +kernel
theorem dX12_cloak_87 : decode cX12_cloak 87 = .ok (.iconst 1, 1) := by decide +kernel
theorem dX12_cloak_88 : decode cX12_cloak 88 = .ok (.if_icmp .ne 7, 3) := by decide +kernel
theorem dX12_cloak_91 : decode cX12_cloak 91 = .ok (.iconst 1, 1) := by decide +kernel
theorem dX12_cloak_92 : decode cX12_cloak 92 = .ok (.goto 4, 3) := by decide +kernel
theorem dX12_cloak_95 : decode cX12_cloak 95 = .ok (.iconst 0, 1) := by decide +kernel
theorem dX12_cloak_96 : decode cX12_cloak 96 = .ok (.istore 8, 2) := by decide +kernel
theorem dX12_cloak_98 : decode cX12_cloak 98 = .ok (.iload 5, 2) := by decide +kernel
theorem dX12_cloak_100 : decode cX12_cloak 100 = .ok (.ifCond .eq 35, 3) := by decide +kernel
theorem dX12_cloak_103 : decode cX12_cloak 103 = .ok (.iload 8, 2) := by decide +kernel
theorem dX12_cloak_105 : decode cX12_cloak 105 = .ok (.ifCond .eq 26, 3) := by decide +kernel
theorem dX12_cloak_108 : decode cX12_cloak 108 = .ok (.aload_n 0, 1) := by decide +kernel
theorem dX12_cloak_109 : decode cX12_cloak 109 = .ok (.iconst 0, 1) := by decide +kernel
theorem dX12_cloak_110 : decode cX12_cloak 110 = .ok (.iload 7, 2) := by decide +kernel
theorem dX12_cloak_112 : decode cX12_cloak 112 = .ok (.invokevirtual 287, 3) := by decide +kernel
theorem dX12_cloak_115 : decode cX12_cloak 115 = .ok (.ifCond .eq 20, 3) := by decide +kernel
theorem dX12_cloak_118 : decode cX12_cloak 118 = .ok (.aload_n 0, 1) := by decide +kernel
theorem dX12_cloak_119 : decode cX12_cloak 119 = .ok (.getfield 119, 3) := by decide +kernel
theorem dX12_cloak_122 : decode cX12_cloak 122 = .ok (.bipush 6, 2) := by decide +kernel
theorem dX12_cloak_124 : decode cX12_cloak 124 = .ok (.iload 7, 2) := by decide +kernel
theorem dX12_cloak_126 : decode cX12_cloak 126 = .ok (.iadd, 1) := by decide +kernel
theorem dX12_cloak_127 : decode cX12_cloak 127 = .ok (.iaload, 1) := by decide +kernel
theorem dX12_cloak_128 : decode cX12_cloak 128 = .ok (.ifCond .ne 7, 3) := by decide +kernel
theorem dX12_cloak_131 : decode cX12_cloak 131 = .ok (.iconst 1, 1) := by decide +kernel
theorem dX12_cloak_132 : decode cX12_cloak 132 = .ok (.goto 4, 3) := by decide +kernel
theorem dX12_cloak_135 : decode cX12_cloak 135 = .ok (.iconst 0, 1) := by decide +kernel
theorem dX12_cloak_136 : decode cX12_cloak 136 = .ok (.istore 5, 2) := by decide +kernel
theorem dX12_cloak_138 : decode cX12_cloak 138 = .ok (.iload 6, 2) := by decide +kernel
theorem dX12_cloak_140 : decode cX12_cloak 140 = .ok (.iload 8, 2) := by decide +kernel
theorem dX12_cloak_142 : decode cX12_cloak 142 = .ok (.ifCond .eq 7, 3) := by decide +kernel
theorem dX12_cloak_145 : decode cX12_cloak 145 = .ok (.iconst 0, 1) := by decide +kernel
theorem dX12_cloak_146 : decode cX12_cloak 146 = .ok (.goto 13, 3) := by decide +kernel
theorem dX12_cloak_149 : decode cX12_cloak 149 = .ok (.aload_n 0, 1) := by decide +kernel
theorem dX12_cloak_150 : decode cX12_cloak 150 = .ok (.iconst 0, 1) := by decide +kernel
theorem dX12_cloak_151 : decode cX12_cloak 151 = .ok (.iload 7, 2) := by decide +kernel
theorem dX12_cloak_153 : decode cX12_cloak 153 = .ok (.iload_n 1, 1) := by decide +kernel
theorem dX12_cloak_154 : decode cX12_cloak 154 = .ok (.bipush 6, 2) := by decide +kernel
theorem dX12_cloak_156 : decode cX12_cloak 156 = .ok (.invokevirtual 330, 3) := by decide +kernel
theorem dX12_cloak_159 : decode cX12_cloak 159 = .ok (.ior, 1) := by decide +kernel
theorem dX12_cloak_160 : decode cX12_cloak 160 = .ok (.istore 6, 2) := by decide +kernel
theorem dX12_cloak_162 : decode cX12_cloak 162 = .ok (.iinc 7 1, 3) := by decide +kernel
theorem dX12_cloak_165 : decode cX12_cloak 165 = .ok (.goto (-94), 3) := by decide +kernel
theorem dX12_cloak_168 : decode cX12_cloak 168 = .ok (.iload 5, 2) := by decide +kernel
theorem dX12_cloak_170 : decode cX12_cloak 170 = .ok (.ifCond .eq 18, 3) := by decide +kernel
theorem dX12_cloak_173 : decode cX12_cloak 173 = .ok (.aload_n 0, 1) := by decide +kernel
theorem dX12_cloak_174 : decode cX12_cloak 174 = .ok (.iload 6, 2) := by decide +kernel
theorem dX12_cloak_176 : decode cX12_cloak 176 = .ok (.invokevirtual 334, 3) := by decide +kernel
theorem dX12_cloak_179 : decode cX12_cloak 179 = .ok (.iload_n 2, 1) := by decide +kernel
theorem dX12_cloak_180 : decode cX12_cloak 180 = .ok (.if_icmp .gt 8, 3) := by decide +kernel
theorem dX12_cloak_183 : decode cX12_cloak 183 = .ok (.iload 4, 2) := by decide +kernel
theorem dX12_cloak_185 : decode cX12_cloak 185 = .ok (.goto 4, 3) := by decide +kernel
theorem dX12_cloak_188 : decode cX12_cloak 188 = .ok (.iload_n 3, 1) := by decide +kernel
theorem dX12_cloak_189 : decode cX12_cloak 189 = .ok (.istore_n 3, 1) := by decide +kernel
theorem dX12_cloak_190 : decode cX12_cloak 190 = .ok (.iinc 4 1, 3) := by decide +kernel
theorem dX12_cloak_193 : decode cX12_cloak 193 = .ok (.goto (-162), 3) := by decide +kernel
theorem dX12_cloak_196 : decode cX12_cloak 196 = .ok (.iload_n 3, 1) := by decide +kernel
theorem dX12_cloak_197 : decode cX12_cloak 197 = .ok (.ireturn, 1) := by decide +kernel
theorem dX12_hide_0 : decode cX12_hide 0 = .ok (.aload_n 0, 1) := by decide +kernel
theorem dX12_hide_1 : decode cX12_hide 1 = .ok (.iconst 0, 1) := by decide +kernel
theorem dX12_hide_2 : decode cX12_hide 2 = .ok (.putfield 1, 3) := by decide +kernel
theorem dX12_hide_5 : decode cX12_hide 5 = .ok (.aload_n 0, 1) := by decide +kernel
theorem dX12_hide_6 : decode cX12_hide 6 = .ok (.iload_n 1, 1) := by decide +kernel
theorem dX12_hide_7 : decode cX12_hide 7 = .ok (.invokevirtual 343, 3) := by decide +kernel
theorem dX12_hide_10 : decode cX12_hide 10 = .ok (.ifCond .eq 12, 3) := by decide +kernel
theorem dX12_hide_13 : decode cX12_hide 13 = .ok (.iload_n 2, 1) := by decide +kernel
theorem dX12_hide_14 : decode cX12_hide 14 = .ok (.iconst 0, 1) := by decide +kernel
theorem dX12_hide_15 : decode cX12_hide 15 = .ok (.iconst 1, 1) := by decide +kernel
theorem dX12_hide_16 : decode cX12_hide 16 = .ok (.invokestatic 198, 3) := by decide +kernel
theorem dX12_hide_19 : decode cX12_hide 19 = .ok (.ifCond .ne 5, 3) := by decide +kernel
theorem dX12_hide_22 : decode cX12_hide 22 = .ok (.iconst (-1), 1) := by decide +kernel
theorem dX12_hide_23 : decode cX12_hide 23 = .ok (.ireturn, 1) := by decide +kernel
theorem dX12_hide_24 : decode cX12_hide 24 = .ok (.iconst (-1), 1) := by decide +kernel
theorem dX12_hide_25 : decode cX12_hide 25 = .ok (.istore_n 3, 1) := by decide +kernel
theorem dX12_hide_26 : decode cX12_hide 26 = .ok (.bipush 10, 2) := by decide +kernel
theorem dX12_hide_28 : decode cX12_hide 28 = .ok (.istore 4, 2) := by decide +kernel
theorem dX12_hide_30 : decode cX12_hide 30 = .ok (.iconst 0, 1) := by decide +kernel
theorem dX12_hide_31 : decode cX12_hide 31 = .ok (.istore 5, 2) := by decide +kernel
theorem dX12_hide_33 : decode cX12_hide 33 = .ok (.iload 5, 2) := by decide +kernel
theorem dX12_hide_35 : decode cX12_hide 35 = .ok (.bipush 10, 2) := by decide +kernel
theorem dX12_hide_37 : decode cX12_hide 37 = .ok (.if_icmp .ge 87, 3) := by decide +kernel
theorem dX12_hide_40 : decode cX12_hide 40 = .ok (.iload 5, 2) := by decide +kernel
theorem dX12_hide_42 : decode cX12_hide 42 = .ok (.aload_n 0, 1) := by decide +kernel
theorem dX12_hide_43 : decode cX12_hide 43 = .ok (.getfield 119, 3) := by decide +kernel
theorem dX12_hide_46 : decode cX12_hide 46 = .ok (.iconst 1, 1) := by decide +kernel
theorem dX12_hide_47 : decode cX12_hide 47 = .ok (.iload_n 1, 1) := by decide +kernel
theorem dX12_hide_48 : decode cX12_hide 48 = .ok (.iadd, 1) := by decide +kernel
theorem dX12_hide_49 : decode cX12_hide 49 = .ok (.iaload, 1) := by decide +kernel
theorem dX12_hide_50 : decode cX12_hide 50 = .ok (.isub, 1) := by decide +kernel
theorem dX12_hide_51 : decode cX12_hide 51 = .ok (.istore 6, 2) := by decide +kernel
theorem dX12_hide_53 : decode cX12_hide 53 = .ok (.iload 6, 2) := by decide +kernel
theorem dX12_hide_55 : decode cX12_hide 55 = .ok (.ifCond .ge 9, 3) := by decide +kernel
theorem dX12_hide_58 : decode cX12_hide 58 = .ok (.iload 6, 2) := by decide +kernel
theorem dX12_hide_60 : decode cX12_hide 60 = .ok (.ineg, 1) := by decide +kernel
theorem dX12_hide_61 : decode cX12_hide 61 = .ok (.goto 5, 3) := by decide +kernel
theorem dX12_hide_64 : decode cX12_hide 64 = .ok (.iload 6, 2) := by decide +kernel
theorem dX12_hide_66 : decode cX12_hide 66 = .ok (.istore 6, 2) := by decide +kernel
theorem dX12_hide_68 : decode cX12_hide 68 = .ok (.aload_n 0, 1) := by decide +kernel
theorem dX12_hide_69 : decode cX12_hide 69 = .ok (.iconst 0, 1) := by decide +kernel
theorem dX12_hide_70 : decode cX12_hide 70 = .ok (.iload 5, 2) := by decide +kernel
theorem dX12_hide_72 : decode cX12_hide 72 = .ok (.invokevirtual 303, 3) := by decide +kernel
theorem dX12_hide_75 : decode cX12_hide 75 = .ok (.ifCond .ne 14, 3) := by decide +kernel
theorem dX12_hide_78 : decode cX12_hide 78 = .ok (.iload 6, 2) := by decide +kernel
theorem dX12_hide_80 : decode cX12_hide 80 = .ok (.iload 4, 2) := by decide +kernel
theorem dX12_hide_82 : decode cX12_hide 82 = .ok (.if_icmp .ge 7, 3) := by decide +kernel
theorem dX12_hide_85 : decode cX12_hide 85 = .ok (.iconst 1, 1) := by decide +kernel
theorem dX12_hide_86 : decode cX12_hide 86 = .ok (.goto 4, 3) := by decide +kernel
theorem dX12_hide_89 : decode cX12_hide 89 = .ok (.iconst 0, 1) := by decide +kernel
theorem dX12_hide_90 : decode cX12_hide 90 = .ok (.istore 7, 2) := by decide +kernel
theorem dX12_hide_92 : decode cX12_hide 92 = .ok (.iload 7, 2) := by decide +kernel
theorem dX12_hide_94 : decode cX12_hide 94 = .ok (.ifCond .eq 8, 3) := by decide +kernel
theorem dX12_hide_97 : decode cX12_hide 97 = .ok (.iload 5, 2) := by decide +kernel
theorem dX12_hide_99 : decode cX12_hide 99 = .ok (.goto 4, 3) := by decide +kernel
theorem dX12_hide_102 : decode cX12_hide 102 = .ok (.iload_n 3, 1) := by decide +kernel
theorem dX12_hide_103 : decode cX12_hide 103 = .ok (.istore_n 3, 1) := by decide +kernel
theorem dX12_hide_104 : decode cX12_hide 104 = .ok (.iload 7, 2) := by decide +kernel
theorem dX12_hide_106 : decode cX12_hide 106 = .ok (.ifCond .eq 8, 3) := by decide +kernel
theorem dX12_hide_109 : decode cX12_hide 109 = .ok (.iload 6, 2) := by decide +kernel
theorem dX12_hide_111 : decode cX12_hide 111 = .ok (.goto 5, 3) := by decide +kernel
theorem dX12_hide_114 : decode cX12_hide 114 = .ok (.iload 4, 2) := by decide +kernel
theorem dX12_hide_116 : decode cX12_hide 116 = .ok (.istore 4, 2) := by decide +kernel
theorem dX12_hide_118 : decode cX12_hide 118 = .ok (.iinc 5 1, 3) := by decide +kernel
theorem dX12_hide_121 : decode cX12_hide 121 = .ok (.goto (-88), 3) := by decide +kernel
theorem dX12_hide_124 : decode cX12_hide 124 = .ok (.iload_n 3, 1) := by decide +kernel
theorem dX12_hide_125 : decode cX12_hide 125 = .ok (.ifCond .lt 8, 3) := by decide +kernel
theorem dX12_hide_128 : decode cX12_hide 128 = .ok (.iload_n 2, 1) := by decide +kernel
theorem dX12_hide_129 : decode cX12_hide 129 = .ok (.iconst 1, 1) := by decide +kernel
theorem dX12_hide_130 : decode cX12_hide 130 = .ok (.if_icmp .ne 7, 3) := by decide +kernel
theorem dX12_hide_133 : decode cX12_hide 133 = .ok (.iload_n 3, 1) := by decide +kernel
theorem dX12_hide_134 : decode cX12_hide 134 = .ok (.goto 5, 3) := by decide +kernel
theorem dX12_hide_137 : decode cX12_hide 137 = .ok (.iload 4, 2) := by decide +kernel
theorem dX12_hide_139 : decode cX12_hide 139 = .ok (.ireturn, 1) := by decide +kernel
theorem dX12_bits_0 : decode cX12_bits 0 = .ok (.iconst 0, 1) := by decide +kernel
theorem dX12_bits_1 : decode cX12_bits 1 = .ok (.istore_n 1, 1) := by decide +kernel
theorem dX12_bits_2 : decode cX12_bits 2 = .ok (.iconst 0, 1) := by decide +kernel
theorem dX12_bits_3 : decode cX12_bits 3 = .ok (.istore_n 2, 1) := by decide +kernel
theorem dX12_bits_4 : decode cX12_bits 4 = .ok (.iload_n 2, 1) := by decide +kernel
theorem dX12_bits_5 : decode cX12_bits 5 = .ok (.bipush 30, 2) := by decide +kernel
theorem dX12_bits_7 : decode cX12_bits 7 = .ok (.if_icmp .ge 17, 3) := by decide +kernel
theorem dX12_bits_10 : decode cX12_bits 10 = .ok (.iload_n 1, 1) := by decide +kernel
theorem dX12_bits_11 : decode cX12_bits 11 = .ok (.iload_n 0, 1) := by decide +kernel
theorem dX12_bits_12 : decode cX12_bits 12 = .ok (.iload_n 2, 1) := by decide +kernel
theorem dX12_bits_13 : decode cX12_bits 13 = .ok (.ishr, 1) := by decide +kernel
theorem dX12_bits_14 : decode cX12_bits 14 = .ok (.iconst 1, 1) := by decide +kernel
theorem dX12_bits_15 : decode cX12_bits 15 = .ok (.iand, 1) := by decide +kernel
theorem dX12_bits_16 : decode cX12_bits 16 = .ok (.iadd, 1) := by decide +kernel
theorem dX12_bits_17 : decode cX12_bits 17 = .ok (.istore_n 1, 1) := by decide +kernel
theorem dX12_bits_18 : decode cX12_bits 18 = .ok (.iinc 2 1, 3) := by decide +kernel
theorem dX12_bits_21 : decode cX12_bits 21 = .ok (.goto (-17), 3) := by decide +kernel
theorem dX12_bits_24 : decode cX12_bits 24 = .ok (.iload_n 1, 1) := by decide +kernel
theorem dX12_bits_25 : decode cX12_bits 25 = .ok (.ireturn, 1) := by decide +kernel
theorem dX12_proof_0 : decode cX12_proof 0 = .ok (.aload_n 0, 1) := by decide +kernel
theorem dX12_proof_1 : decode cX12_proof 1 = .ok (.iconst 0, 1) := by decide +kernel
theorem dX12_proof_2 : decode cX12_proof 2 = .ok (.putfield 1, 3) := by decide +kernel
theorem dX12_proof_5 : decode cX12_proof 5 = .ok (.aload_n 0, 1) := by decide +kernel
theorem dX12_proof_6 : decode cX12_proof 6 = .ok (.iload_n 1, 1) := by decide +kernel
theorem dX12_proof_7 : decode cX12_proof 7 = .ok (.invokevirtual 343, 3) := by decide +kernel
theorem dX12_proof_10 : decode cX12_proof 10 = .ok (.ifCond .eq 19, 3) := by decide +kernel
theorem dX12_proof_13 : decode cX12_proof 13 = .ok (.iload_n 2, 1) := by decide +kernel
theorem dX12_proof_14 : decode cX12_proof 14 = .ok (.iconst 0, 1) := by decide +kernel
theorem dX12_proof_15 : decode cX12_proof 15 = .ok (.iconst 1, 1) := by decide +kernel
theorem dX12_proof_16 : decode cX12_proof 16 = .ok (.aload_n 0, 1) := by decide +kernel
theorem dX12_proof_17 : decode cX12_proof 17 = .ok (.invokevirtual 281, 3) := by decide +kernel
theorem dX12_proof_20 : decode cX12_proof 20 = .ok (.ishl, 1) := by decide +kernel
theorem dX12_proof_21 : decode cX12_proof 21 = .ok (.iconst 1, 1) := by decide +kernel
theorem dX12_proof_22 : decode cX12_proof 22 = .ok (.isub, 1) := by decide +kernel
theorem dX12_proof_23 : decode cX12_proof 23 = .ok (.invokestatic 198, 3) := by decide +kernel
theorem dX12_proof_26 : decode cX12_proof 26 = .ok (.ifCond .ne 5, 3) := by decide +kernel
theorem dX12_proof_29 : decode cX12_proof 29 = .ok (.iconst (-1), 1) := by decide +kernel
theorem dX12_proof_30 : decode cX12_proof 30 = .ok (.ireturn, 1) := by decide +kernel
theorem dX12_proof_31 : decode cX12_proof 31 = .ok (.iconst (-1), 1) := by decide +kernel
theorem dX12_proof_32 : decode cX12_proof 32 = .ok (.istore_n 3, 1) := by decide +kernel
theorem dX12_proof_33 : decode cX12_proof 33 = .ok (.iconst 0, 1) := by decide +kernel
theorem dX12_proof_34 : decode cX12_proof 34 = .ok (.istore 4, 2) := by decide +kernel
