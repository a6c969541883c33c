theorem dX12_turn_60 : decode cX12_turn 60 = .ok (.iload_n 1, 1) := by decide +kernel
theorem dX12_turn_61 : decode cX12_turn 61 = .ok (.invokevirtual 619, 3) := by decide +kernel
theorem dX12_turn_64 : decode cX12_turn 64 = .ok (.ldiv, 1) := by decide +kernel
theorem dX12_turn_65 : decode cX12_turn 65 = .ok (.lstore 5, 2) := by decide +kernel
theorem dX12_turn_67 : decode cX12_turn 67 = .ok (.aload_n 0, 1) := by decide +kernel
theorem dX12_turn_68 : decode cX12_turn 68 = .ok (.aload_n 0, 1) := by decide +kernel
theorem dX12_turn_69 : decode cX12_turn 69 = .ok (.getfield 529, 3) := by decide +kernel
theorem dX12_turn_72 : decode cX12_turn 72 = .ok (.iload_n 1, 1) := by decide +kernel
theorem dX12_turn_73 : decode cX12_turn 73 = .ok (.iaload, 1) := by decide +kernel
theorem dX12_turn_74 : decode cX12_turn 74 = .ok (.lload 5, 2) := by decide +kernel
theorem dX12_turn_76 : decode cX12_turn 76 = .ok (.lload_n 3, 1) := by decide +kernel
theorem dX12_turn_77 : decode cX12_turn 77 = .ok (.aload_n 0, 1) := by decide +kernel
theorem dX12_turn_78 : decode cX12_turn 78 = .ok (.getfield 541, 3) := by decide +kernel
theorem dX12_turn_81 : decode cX12_turn 81 = .ok (.iload_n 1, 1) := by decide +kernel
theorem dX12_turn_82 : decode cX12_turn 82 = .ok (.laload, 1) := by decide +kernel
theorem dX12_turn_83 : decode cX12_turn 83 = .ok (.lsub, 1) := by decide +kernel
theorem dX12_turn_84 : decode cX12_turn 84 = .ok (.aload_n 0, 1) := by decide +kernel
theorem dX12_turn_85 : decode cX12_turn 85 = .ok (.getfield 351, 3) := by decide +kernel
theorem dX12_turn_88 : decode cX12_turn 88 = .ok (.iload_n 2, 1) := by decide +kernel
theorem dX12_turn_89 : decode cX12_turn 89 = .ok (.iaload, 1) := by decide +kernel
theorem dX12_turn_90 : decode cX12_turn 90 = .ok (.i2l, 1) := by decide +kernel
theorem dX12_turn_91 : decode cX12_turn 91 = .ok (.lmul, 1) := by decide +kernel
theorem dX12_turn_92 : decode cX12_turn 92 = .ok (.invokevirtual 622, 3) := by decide +kernel
theorem dX12_turn_95 : decode cX12_turn 95 = .ok (.iconst 0, 1) := by decide +kernel
theorem dX12_turn_96 : decode cX12_turn 96 = .ok (.ireturn, 1) := by decide +kernel
theorem dX12_poly_0 : decode cX12_poly 0 = .ok (.aload_n 0, 1) := by decide +kernel
theorem dX12_poly_1 : decode cX12_poly 1 = .ok (.getfield 378, 3) := by decide +kernel
theorem dX12_poly_4 : decode cX12_poly 4 = .ok (.iload_n 2, 1) := by decide +kernel
theorem dX12_poly_5 : decode cX12_poly 5 = .ok (.iaload, 1) := by decide +kernel
theorem dX12_poly_6 : decode cX12_poly 6 = .ok (.istore 5, 2) := by decide +kernel
theorem dX12_poly_8 : decode cX12_poly 8 = .ok (.aload_n 0, 1) := by decide +kernel
theorem dX12_poly_9 : decode cX12_poly 9 = .ok (.getfield 520, 3) := by decide +kernel
theorem dX12_poly_12 : decode cX12_poly 12 = .ok (.iload_n 1, 1) := by decide +kernel
theorem dX12_poly_13 : decode cX12_poly 13 = .ok (.iaload, 1) := by decide +kernel
theorem dX12_poly_14 : decode cX12_poly 14 = .ok (.iconst 1, 1) := by decide +kernel
theorem dX12_poly_15 : decode cX12_poly 15 = .ok (.if_icmp .ne 83, 3) := by decide +kernel
theorem dX12_poly_18 : decode cX12_poly 18 = .ok (.aload_n 0, 1) := by decide +kernel
theorem dX12_poly_19 : decode cX12_poly 19 = .ok (.getfield 351, 3) := by decide +kernel
theorem dX12_poly_22 : decode cX12_poly 22 = .ok (.iload_n 2, 1) := by decide +kernel
theorem dX12_poly_23 : decode cX12_poly 23 = .ok (.iaload, 1) := by decide +kernel
theorem dX12_poly_24 : decode cX12_poly 24 = .ok (.iload 5, 2) := by decide +kernel
theorem dX12_poly_26 : decode cX12_poly 26 = .ok (.idiv, 1) := by decide +kernel
theorem dX12_poly_27 : decode cX12_poly 27 = .ok (.i2l, 1) := by decide +kernel
theorem dX12_poly_28 : decode cX12_poly 28 = .ok (.lstore 6, 2) := by decide +kernel
theorem dX12_poly_30 : decode cX12_poly 30 = .ok (.lload 6, 2) := by decide +kernel
theorem dX12_poly_32 : decode cX12_poly 32 = .ok (.aload_n 0, 1) := by decide +kernel
theorem dX12_poly_33 : decode cX12_poly 33 = .ok (.iload_n 1, 1) := by decide +kernel
theorem dX12_poly_34 : decode cX12_poly 34 = .ok (.invokevirtual 619, 3) := by decide +kernel
theorem dX12_poly_37 : decode cX12_poly 37 = .ok (.ldiv, 1) := by decide +kernel
theorem dX12_poly_38 : decode cX12_poly 38 = .ok (.lstore 8, 2) := by decide +kernel
theorem dX12_poly_40 : decode cX12_poly 40 = .ok (.aload_n 0, 1) := by decide +kernel
theorem dX12_poly_41 : decode cX12_poly 41 = .ok (.aload_n 0, 1) := by decide +kernel
theorem dX12_poly_42 : decode cX12_poly 42 = .ok (.getfield 529, 3) := by decide +kernel
theorem dX12_poly_45 : decode cX12_poly 45 = .ok (.iload_n 1, 1) := by decide +kernel
theorem dX12_poly_46 : decode cX12_poly 46 = .ok (.iaload, 1) := by decide +kernel
theorem dX12_poly_47 : decode cX12_poly 47 = .ok (.lload 8, 2) := by decide +kernel
theorem dX12_poly_49 : decode cX12_poly 49 = .ok (.lload_n 3, 1) := by decide +kernel
theorem dX12_poly_50 : decode cX12_poly 50 = .ok (.aload_n 0, 1) := by decide +kernel
theorem dX12_poly_51 : decode cX12_poly 51 = .ok (.getfield 351, 3) := by decide +kernel
theorem dX12_poly_54 : decode cX12_poly 54 = .ok (.iload_n 2, 1) := by decide +kernel
theorem dX12_poly_55 : decode cX12_poly 55 = .ok (.iaload, 1) := by decide +kernel
theorem dX12_poly_56 : decode cX12_poly 56 = .ok (.i2l, 1) := by decide +kernel
theorem dX12_poly_57 : decode cX12_poly 57 = .ok (.lmul, 1) := by decide +kernel
theorem dX12_poly_58 : decode cX12_poly 58 = .ok (.aload_n 0, 1) := by decide +kernel
theorem dX12_poly_59 : decode cX12_poly 59 = .ok (.getfield 535, 3) := by decide +kernel
theorem dX12_poly_62 : decode cX12_poly 62 = .ok (.iload_n 1, 1) := by decide +kernel
theorem dX12_poly_63 : decode cX12_poly 63 = .ok (.iaload, 1) := by decide +kernel
theorem dX12_poly_64 : decode cX12_poly 64 = .ok (.i2l, 1) := by decide +kernel
theorem dX12_poly_65 : decode cX12_poly 65 = .ok (.lload 6, 2) := by decide +kernel
theorem dX12_poly_67 : decode cX12_poly 67 = .ok (.lmul, 1) := by decide +kernel
theorem dX12_poly_68 : decode cX12_poly 68 = .ok (.ladd, 1) := by decide +kernel
theorem dX12_poly_69 : decode cX12_poly 69 = .ok (.aload_n 0, 1) := by decide +kernel
theorem dX12_poly_70 : decode cX12_poly 70 = .ok (.getfield 541, 3) := by decide +kernel
theorem dX12_poly_73 : decode cX12_poly 73 = .ok (.iload_n 1, 1) := by decide +kernel
theorem dX12_poly_74 : decode cX12_poly 74 = .ok (.laload, 1) := by decide +kernel
theorem dX12_poly_75 : decode cX12_poly 75 = .ok (.aload_n 0, 1) := by decide +kernel
theorem dX12_poly_76 : decode cX12_poly 76 = .ok (.iload_n 1, 1) := by decide +kernel
theorem dX12_poly_77 : decode cX12_poly 77 = .ok (.invokevirtual 619, 3) := by decide +kernel
theorem dX12_poly_80 : decode cX12_poly 80 = .ok (.lmul, 1) := by decide +kernel
theorem dX12_poly_81 : decode cX12_poly 81 = .ok (.lload 8, 2) := by decide +kernel
theorem dX12_poly_83 : decode cX12_poly 83 = .ok (.lmul, 1) := by decide +kernel
theorem dX12_poly_84 : decode cX12_poly 84 = .ok (.lsub, 1) := by decide +kernel
theorem dX12_poly_85 : decode cX12_poly 85 = .ok (.invokevirtual 622, 3) := by decide +kernel
theorem dX12_poly_88 : decode cX12_poly 88 = .ok (.aload_n 0, 1) := by decide +kernel
theorem dX12_poly_89 : decode cX12_poly 89 = .ok (.getfield 535, 3) := by decide +kernel
theorem dX12_poly_92 : decode cX12_poly 92 = .ok (.iload_n 1, 1) := by decide +kernel
theorem dX12_poly_93 : decode cX12_poly 93 = .ok (.dup2, 1) := by decide +kernel
theorem dX12_poly_94 : decode cX12_poly 94 = .ok (.iaload, 1) := by decide +kernel
theorem dX12_poly_95 : decode cX12_poly 95 = .ok (.iconst 1, 1) := by decide +kernel
theorem dX12_poly_96 : decode cX12_poly 96 = .ok (.iadd, 1) := by decide +kernel
theorem dX12_poly_97 : decode cX12_poly 97 = .ok (.iastore, 1) := by decide +kernel
theorem dX12_poly_98 : decode cX12_poly 98 = .ok (.aload_n 0, 1) := by decide +kernel
theorem dX12_poly_99 : decode cX12_poly 99 = .ok (.getfield 535, 3) := by decide +kernel
theorem dX12_poly_102 : decode cX12_poly 102 = .ok (.iload_n 1, 1) := by decide +kernel
theorem dX12_poly_103 : decode cX12_poly 103 = .ok (.iaload, 1) := by decide +kernel
theorem dX12_poly_104 : decode cX12_poly 104 = .ok (.iload 5, 2) := by decide +kernel
theorem dX12_poly_106 : decode cX12_poly 106 = .ok (.if_icmp .ne 5, 3) := by decide +kernel
theorem dX12_poly_109 : decode cX12_poly 109 = .ok (.iconst 0, 1) := by decide +kernel
theorem dX12_poly_110 : decode cX12_poly 110 = .ok (.ireturn, 1) := by decide +kernel
theorem dX12_poly_111 : decode cX12_poly 111 = .ok (.aload_n 0, 1) := by decide +kernel
theorem dX12_poly_112 : decode cX12_poly 112 = .ok (.iload_n 2, 1) := by decide +kernel
theorem dX12_poly_113 : decode cX12_poly 113 = .ok (.invokevirtual 423, 3) := by decide +kernel
theorem dX12_poly_116 : decode cX12_poly 116 = .ok (.lstore 6, 2) := by decide +kernel
theorem dX12_poly_118 : decode cX12_poly 118 = .ok (.lload_n 3, 1) := by decide +kernel
theorem dX12_poly_119 : decode cX12_poly 119 = .ok (.iload 5, 2) := by decide +kernel
theorem dX12_poly_121 : decode cX12_poly 121 = .ok (.i2l, 1) := by decide +kernel
theorem dX12_poly_122 : decode cX12_poly 122 = .ok (.lmul, 1) := by decide +kernel
theorem dX12_poly_123 : decode cX12_poly 123 = .ok (.aload_n 0, 1) := by decide +kernel
theorem dX12_poly_124 : decode cX12_poly 124 = .ok (.getfield 535, 3) := by decide +kernel
theorem dX12_poly_127 : decode cX12_poly 127 = .ok (.iload_n 1, 1) := by decide +kernel
theorem dX12_poly_128 : decode cX12_poly 128 = .ok (.iaload, 1) := by decide +kernel
theorem dX12_poly_129 : decode cX12_poly 129 = .ok (.i2l, 1) := by decide +kernel
theorem dX12_poly_130 : decode cX12_poly 130 = .ok (.ladd, 1) := by decide +kernel
theorem dX12_poly_131 : decode cX12_poly 131 = .ok (.lstore 8, 2) := by decide +kernel
theorem dX12_poly_133 : decode cX12_poly 133 = .ok (.aload_n 0, 1) := by decide +kernel
theorem dX12_poly_134 : decode cX12_poly 134 = .ok (.getfield 541, 3) := by decide +kernel
theorem dX12_poly_137 : decode cX12_poly 137 = .ok (.iload_n 1, 1) := by decide +kernel
theorem dX12_poly_138 : decode cX12_poly 138 = .ok (.lload 8, 2) := by decide +kernel
theorem dX12_poly_140 : decode cX12_poly 140 = .ok (.lload 6, 2) := by decide +kernel
theorem dX12_poly_142 : decode cX12_poly 142 = .ok (.invokestatic 508, 3) := by decide +kernel
theorem dX12_poly_145 : decode cX12_poly 145 = .ok (.lastore, 1) := by decide +kernel
theorem dX12_poly_146 : decode cX12_poly 146 = .ok (.aload_n 0, 1) := by decide +kernel
theorem dX12_poly_147 : decode cX12_poly 147 = .ok (.iload_n 1, 1) := by decide +kernel
theorem dX12_poly_148 : decode cX12_poly 148 = .ok (.aload_n 0, 1) := by decide +kernel
theorem dX12_poly_149 : decode cX12_poly 149 = .ok (.iload_n 2, 1) := by decide +kernel
theorem dX12_poly_150 : decode cX12_poly 150 = .ok (.lload 8, 2) := by decide +kernel
theorem dX12_poly_152 : decode cX12_poly 152 = .ok (.lload 6, 2) := by decide +kernel
theorem dX12_poly_154 : decode cX12_poly 154 = .ok (.invokestatic 633, 3) := by decide +kernel
theorem dX12_poly_157 : decode cX12_poly 157 = .ok (.invokevirtual 636, 3) := by decide +kernel
theorem dX12_poly_160 : decode cX12_poly 160 = .ok (.aload_n 0, 1) := by decide +kernel
theorem dX12_poly_161 : decode cX12_poly 161 = .ok (.getfield 541, 3) := by decide +kernel
theorem dX12_poly_164 : decode cX12_poly 164 = .ok (.iload_n 1, 1) := by decide +kernel
theorem dX12_poly_165 : decode cX12_poly 165 = .ok (.laload, 1) := by decide +kernel
theorem dX12_poly_166 : decode cX12_poly 166 = .ok (.invokevirtual 626, 3) := by decide +kernel
theorem dX12_poly_169 : decode cX12_poly 169 = .ok (.iconst 1, 1) := by decide +kernel
theorem dX12_poly_170 : decode cX12_poly 170 = .ok (.ireturn, 1) := by decide +kernel
theorem dX12_spreads_0 : decode cX12_spreads 0 = .ok (.aload_n 0, 1) := by decide +kernel
theorem dX12_spreads_1 : decode cX12_spreads 1 = .ok (.getfield 381, 3) := by decide +kernel
theorem dX12_spreads_4 : decode cX12_spreads 4 = .ok (.iload_n 2, 1) := by decide +kernel
theorem dX12_spreads_5 : decode cX12_spreads 5 = .ok (.iaload, 1) := by decide +kernel
theorem dX12_spreads_6 : decode cX12_spreads 6 = .ok (.istore 5, 2) := by decide +kernel
theorem dX12_spreads_8 : decode cX12_spreads 8 = .ok (.aload_n 0, 1) := by decide +kernel
theorem dX12_spreads_9 : decode cX12_spreads 9 = .ok (.getfield 351, 3) := by decide +kernel
theorem dX12_spreads_12 : decode cX12_spreads 12 = .ok (.iload_n 2, 1) := by decide +kernel
theorem dX12_spreads_13 : decode cX12_spreads 13 = .ok (.iaload, 1) := by decide +kernel
theorem dX12_spreads_14 : decode cX12_spreads 14 = .ok (.iload 5, 2) := by decide +kernel
theorem dX12_spreads_16 : decode cX12_spreads 16 = .ok (.idiv, 1) := by decide +kernel
theorem dX12_spreads_17 : decode cX12_spreads 17 = .ok (.i2l, 1) := by decide +kernel
theorem dX12_spreads_18 : decode cX12_spreads 18 = .ok (.lstore 6, 2) := by decide +kernel
theorem dX12_spreads_20 : decode cX12_spreads 20 = .ok (.aload_n 0, 1) := by decide +kernel
theorem dX12_spreads_21 : decode cX12_spreads 21 = .ok (.getfield 520, 3) := by decide +kernel
theorem dX12_spreads_24 : decode cX12_spreads 24 = .ok (.iload_n 1, 1) := by decide +kernel
theorem dX12_spreads_25 : decode cX12_spreads 25 = .ok (.iaload, 1) := by decide +kernel
theorem dX12_spreads_26 : decode cX12_spreads 26 = .ok (.iconst 1, 1) := by decide +kernel
theorem dX12_spreads_27 : decode cX12_spreads 27 = .ok (.if_icmp .ne 66, 3) := by decide +kernel
theorem dX12_spreads_30 : decode cX12_spreads 30 = .ok (.lload 6, 2) := by decide +kernel
theorem dX12_spreads_32 : decode cX12_spreads 32 = .ok (.aload_n 0, 1) := by decide +kernel
theorem dX12_spreads_33 : decode cX12_spreads 33 = .ok (.iload_n 1, 1) := by decide +kernel
theorem dX12_spreads_34 : decode cX12_spreads 34 = .ok (.invokevirtual 619, 3) := by decide +kernel
theorem dX12_spreads_37 : decode cX12_spreads 37 = .ok (.ldiv, 1) := by decide +kernel
theorem dX12_spreads_38 : decode cX12_spreads 38 = .ok (.lstore 8, 2) := by decide +kernel
theorem dX12_spreads_40 : decode cX12_spreads 40 = .ok (.aload_n 0, 1) := by decide +kernel
theorem dX12_spreads_41 : decode cX12_spreads 41 = .ok (.aload_n 0, 1) := by decide +kernel
theorem dX12_spreads_42 : decode cX12_spreads 42 = .ok (.getfield 529, 3) := by decide +kernel
theorem dX12_spreads_45 : decode cX12_spreads 45 = .ok (.iload_n 1, 1) := by decide +kernel
theorem dX12_spreads_46 : decode cX12_spreads 46 = .ok (.iaload, 1) := by decide +kernel
theorem dX12_spreads_47 : decode cX12_spreads 47 = .ok (.lload 8, 2) := by decide +kernel
theorem dX12_spreads_49 : decode cX12_spreads 49 = .ok (.lload_n 3, 1) := by decide +kernel
theorem dX12_spreads_50 : decode cX12_spreads 50 = .ok (.aload_n 0, 1) := by decide +kernel
theorem dX12_spreads_51 : decode cX12_spreads 51 = .ok (.getfield 351, 3) := by decide +kernel
theorem dX12_spreads_54 : decode cX12_spreads 54 = .ok (.iload_n 2, 1) := by decide +kernel
theorem dX12_spreads_55 : decode cX12_spreads 55 = .ok (.iaload, 1) := by decide +kernel
theorem dX12_spreads_56 : decode cX12_spreads 56 = .ok (.i2l, 1) := by decide +kernel
theorem dX12_spreads_57 : decode cX12_spreads 57 = .ok (.lmul, 1) := by decide +kernel
theorem dX12_spreads_58 : decode cX12_spreads 58 = .ok (.aload_n 0, 1) := by decide +kernel
theorem dX12_spreads_59 : decode cX12_spreads 59 = .ok (.getfield 535, 3) := by decide +kernel
theorem dX12_spreads_62 : decode cX12_spreads 62 = .ok (.iload_n 1, 1) := by decide +kernel
theorem dX12_spreads_63 : decode cX12_spreads 63 = .ok (.iaload, 1) := by decide +kernel
theorem dX12_spreads_64 : decode cX12_spreads 64 = .ok (.i2l, 1) := by decide +kernel
theorem dX12_spreads_65 : decode cX12_spreads 65 = .ok (.lload 6, 2) := by decide +kernel
theorem dX12_spreads_67 : decode cX12_spreads 67 = .ok (.lmul, 1) := by decide +kernel
theorem dX12_spreads_68 : decode cX12_spreads 68 = .ok (.ladd, 1) := by decide +kernel
theorem dX12_spreads_69 : decode cX12_spreads 69 = .ok (.lload_n 3, 1) := by decide +kernel
theorem dX12_spreads_70 : decode cX12_spreads 70 = .ok (.aload_n 0, 1) := by decide +kernel
theorem dX12_spreads_71 : decode cX12_spreads 71 = .ok (.iload_n 1, 1) := by decide +kernel
theorem dX12_spreads_72 : decode cX12_spreads 72 = .ok (.invokevirtual 619, 3) := by decide +kernel
theorem dX12_spreads_75 : decode cX12_spreads 75 = .ok (.lmul, 1) := by decide +kernel
theorem dX12_spreads_76 : decode cX12_spreads 76 = .ok (.lload 8, 2) := by decide +kernel
theorem dX12_spreads_78 : decode cX12_spreads 78 = .ok (.lmul, 1) := by decide +kernel
theorem dX12_spreads_79 : decode cX12_spreads 79 = .ok (.lsub, 1) := by decide +kernel
theorem dX12_spreads_80 : decode cX12_spreads 80 = .ok (.invokevirtual 622, 3) := by decide +kernel
theorem dX12_spreads_83 : decode cX12_spreads 83 = .ok (.aload_n 0, 1) := by decide +kernel
theorem dX12_spreads_84 : decode cX12_spreads 84 = .ok (.getfield 535, 3) := by decide +kernel
theorem dX12_spreads_87 : decode cX12_spreads 87 = .ok (.iload_n 1, 1) := by decide +kernel
theorem dX12_spreads_88 : decode cX12_spreads 88 = .ok (.dup2, 1) := by decide +kernel
theorem dX12_spreads_89 : decode cX12_spreads 89 = .ok (.iaload, 1) := by decide +kernel
theorem dX12_spreads_90 : decode cX12_spreads 90 = .ok (.iconst 1, 1) := by decide +kernel
theorem dX12_spreads_91 : decode cX12_spreads 91 = .ok (.iadd, 1) := by decide +kernel
theorem dX12_spreads_92 : decode cX12_spreads 92 = .ok (.iastore, 1) := by decide +kernel
theorem dX12_spreads_93 : decode cX12_spreads 93 = .ok (.aload_n 0, 1) := by decide +kernel
theorem dX12_spreads_94 : decode cX12_spreads 94 = .ok (.getfield 535, 3) := by decide +kernel
theorem dX12_spreads_97 : decode cX12_spreads 97 = .ok (.iload_n 1, 1) := by decide +kernel
theorem dX12_spreads_98 : decode cX12_spreads 98 = .ok (.iaload, 1) := by decide +kernel
theorem dX12_spreads_99 : decode cX12_spreads 99 = .ok (.iload 5, 2) := by decide +kernel
theorem dX12_spreads_101 : decode cX12_spreads 101 = .ok (.if_icmp .ge 51, 3) := by decide +kernel
theorem dX12_spreads_104 : decode cX12_spreads 104 = .ok (.aload_n 0, 1) := by decide +kernel
theorem dX12_spreads_105 : decode cX12_spreads 105 = .ok (.getfield 535, 3) := by decide +kernel
theorem dX12_spreads_108 : decode cX12_spreads 108 = .ok (.iload_n 1, 1) := by decide +kernel
theorem dX12_spreads_109 : decode cX12_spreads 109 = .ok (.iaload, 1) := by decide +kernel
theorem dX12_spreads_110 : decode cX12_spreads 110 = .ok (.aload_n 0, 1) := by decide +kernel
theorem dX12_spreads_111 : decode cX12_spreads 111 = .ok (.getfield 384, 3) := by decide +kernel
theorem dX12_spreads_114 : decode cX12_spreads 114 = .ok (.iload_n 2, 1) := by decide +kernel
theorem dX12_spreads_115 : decode cX12_spreads 115 = .ok (.iaload, 1) := by decide +kernel
theorem dX12_spreads_116 : decode cX12_spreads 116 = .ok (.iadd, 1) := by decide +kernel
theorem dX12_spreads_117 : decode cX12_spreads 117 = .ok (.iload 5, 2) := by decide +kernel
theorem dX12_spreads_119 : decode cX12_spreads 119 = .ok (.irem, 1) := by decide +kernel
theorem dX12_spreads_120 : decode cX12_spreads 120 = .ok (.aload_n 0, 1) := by decide +kernel
theorem dX12_spreads_121 : decode cX12_spreads 121 = .ok (.getfield 378, 3) := by decide +kernel
theorem dX12_spreads_124 : decode cX12_spreads 124 = .ok (.iload_n 2, 1) := by decide +kernel
theorem dX12_spreads_125 : decode cX12_spreads 125 = .ok (.iaload, 1) := by decide +kernel
theorem dX12_spreads_126 : decode cX12_spreads 126 = .ok (.imul, 1) := by decide +kernel
theorem dX12_spreads_127 : decode cX12_spreads 127 = .ok (.iload 5, 2) := by decide +kernel
theorem dX12_spreads_129 : decode cX12_spreads 129 = .ok (.irem, 1) := by decide +kernel
theorem dX12_spreads_130 : decode cX12_spreads 130 = .ok (.aload_n 0, 1) := by decide +kernel
theorem dX12_spreads_131 : decode cX12_spreads 131 = .ok (.getfield 378, 3) := by decide +kernel
theorem dX12_spreads_134 : decode cX12_spreads 134 = .ok (.iload_n 2, 1) := by decide +kernel
theorem dX12_spreads_135 : decode cX12_spreads 135 = .ok (.iaload, 1) := by decide +kernel
theorem dX12_spreads_136 : decode cX12_spreads 136 = .ok (.if_icmp .lt 16, 3) := by decide +kernel
theorem dX12_spreads_139 : decode cX12_spreads 139 = .ok (.aload_n 0, 1) := by decide +kernel
theorem dX12_spreads_140 : decode cX12_spreads 140 = .ok (.getfield 535, 3) := by decide +kernel
theorem dX12_spreads_143 : decode cX12_spreads 143 = .ok (.iload_n 1, 1) := by decide +kernel
theorem dX12_spreads_144 : decode cX12_spreads 144 = .ok (.dup2, 1) := by decide +kernel
theorem dX12_spreads_145 : decode cX12_spreads 145 = .ok (.iaload, 1) := by decide +kernel
theorem dX12_spreads_146 : decode cX12_spreads 146 = .ok (.iconst 1, 1) := by decide +kernel
theorem dX12_spreads_147 : decode cX12_spreads 147 = .ok (.iadd, 1) := by decide +kernel
theorem dX12_spreads_148 : decode cX12_spreads 148 = .ok (.iastore, 1) := by decide +kernel
theorem dX12_spreads_149 : decode cX12_spreads 149 = .ok (.goto (-56), 3) := by decide +kernel
theorem dX12_spreads_152 : decode cX12_spreads 152 = .ok (.aload_n 0, 1) := by decide +kernel
theorem dX12_spreads_153 : decode cX12_spreads 153 = .ok (.getfield 535, 3) := by decide +kernel
theorem dX12_spreads_156 : decode cX12_spreads 156 = .ok (.iload_n 1, 1) := by decide +kernel
theorem dX12_spreads_157 : decode cX12_spreads 157 = .ok (.iaload, 1) := by decide +kernel
theorem dX12_spreads_158 : decode cX12_spreads 158 = .ok (.iload 5, 2) := by decide +kernel
theorem dX12_spreads_160 : decode cX12_spreads 160 = .ok (.if_icmp .ne 5, 3) := by decide +kernel
theorem dX12_spreads_163 : decode cX12_spreads 163 = .ok (.iconst 0, 1) := by decide +kernel
theorem dX12_spreads_164 : decode cX12_spreads 164 = .ok (.ireturn, 1) := by decide +kernel
theorem dX12_spreads_165 : decode cX12_spreads 165 = .ok (.aload_n 0, 1) := by decide +kernel
theorem dX12_spreads_166 : decode cX12_spreads 166 = .ok (.iload_n 1, 1) := by decide +kernel
theorem dX12_spreads_167 : decode cX12_spreads 167 = .ok (.iconst 0, 1) := by decide +kernel
theorem dX12_spreads_168 : decode cX12_spreads 168 = .ok (.lload_n 3, 1) := by decide +kernel
theorem dX12_spreads_169 : decode cX12_spreads 169 = .ok (.invokevirtual 626, 3) := by decide +kernel
theorem dX12_spreads_172 : decode cX12_spreads 172 = .ok (.iconst 1, 1) := by decide +kernel
theorem dX12_spreads_173 : decode cX12_spreads 173 = .ok (.ireturn, 1) := by decide +kernel
theorem dX12_rows_0 : decode cX12_rows 0 = .ok (.aload_n 0, 1) := by decide +kernel
theorem dX12_rows_1 : decode cX12_rows 1 = .ok (.getfield 520, 3) := by decide +kernel
theorem dX12_rows_4 : decode cX12_rows 4 = .ok (.iload_n 1, 1) := by decide +kernel
theorem dX12_rows_5 : decode cX12_rows 5 = .ok (.iaload, 1) := by decide +kernel
theorem dX12_rows_6 : decode cX12_rows 6 = .ok (.ifCond .ne 13, 3) := by decide +kernel
theorem dX12_rows_9 : decode cX12_rows 9 = .ok (.aload_n 0, 1) := by decide +kernel
theorem dX12_rows_10 : decode cX12_rows 10 = .ok (.iload_n 1, 1) := by decide +kernel
theorem dX12_rows_11 : decode cX12_rows 11 = .ok (.iload_n 2, 1) := by decide +kernel
theorem dX12_rows_12 : decode cX12_rows 12 = .ok (.lload_n 3, 1) := by decide +kernel
theorem dX12_rows_13 : decode cX12_rows 13 = .ok (.invokevirtual 640, 3) := by decide +kernel
theorem dX12_rows_16 : decode cX12_rows 16 = .ok (.goto 129, 3) := by decide +kernel
theorem dX12_rows_19 : decode cX12_rows 19 = .ok (.aload_n 0, 1) := by decide +kernel
theorem dX12_rows_20 : decode cX12_rows 20 = .ok (.getfield 375, 3) := by decide +kernel
theorem dX12_rows_23 : decode cX12_rows 23 = .ok (.iload_n 2, 1) := by decide +kernel
theorem dX12_rows_24 : decode cX12_rows 24 = .ok (.iaload, 1) := by decide +kernel
theorem dX12_rows_25 : decode cX12_rows 25 = .ok (.bipush 18, 2) := by decide +kernel
theorem dX12_rows_27 : decode cX12_rows 27 = .ok (.if_icmp .ne 17, 3) := by decide +kernel
theorem dX12_rows_30 : decode cX12_rows 30 = .ok (.aload_n 0, 1) := by decide +kernel
theorem dX12_rows_31 : decode cX12_rows 31 = .ok (.iload_n 1, 1) := by decide +kernel
theorem dX12_rows_32 : decode cX12_rows 32 = .ok (.aload_n 0, 1) := by decide +kernel
theorem dX12_rows_33 : decode cX12_rows 33 = .ok (.getfield 378, 3) := by decide +kernel
theorem dX12_rows_36 : decode cX12_rows 36 = .ok (.iload_n 2, 1) := by decide +kernel
theorem dX12_rows_37 : decode cX12_rows 37 = .ok (.iaload, 1) := by decide +kernel
theorem dX12_rows_38 : decode cX12_rows 38 = .ok (.invokevirtual 643, 3) := by decide +kernel
theorem dX12_rows_41 : decode cX12_rows 41 = .ok (.goto 64, 3) := by decide +kernel
theorem dX12_rows_44 : decode cX12_rows 44 = .ok (.aload_n 0, 1) := by decide +kernel
theorem dX12_rows_45 : decode cX12_rows 45 = .ok (.getfield 375, 3) := by decide +kernel
theorem dX12_rows_48 : decode cX12_rows 48 = .ok (.iload_n 2, 1) := by decide +kernel
theorem dX12_rows_49 : decode cX12_rows 49 = .ok (.iaload, 1) := by decide +kernel
theorem dX12_rows_50 : decode cX12_rows 50 = .ok (.bipush 9, 2) := by decide +kernel
theorem dX12_rows_52 : decode cX12_rows 52 = .ok (.if_icmp .ne 24, 3) := by decide +kernel
theorem dX12_rows_55 : decode cX12_rows 55 = .ok (.aload_n 0, 1) := by decide +kernel
theorem dX12_rows_56 : decode cX12_rows 56 = .ok (.aload_n 0, 1) := by decide +kernel
theorem dX12_rows_57 : decode cX12_rows 57 = .ok (.getfield 529, 3) := by decide +kernel
theorem dX12_rows_60 : decode cX12_rows 60 = .ok (.iload_n 1, 1) := by decide +kernel
theorem dX12_rows_61 : decode cX12_rows 61 = .ok (.iaload, 1) := by decide +kernel
theorem dX12_rows_62 : decode cX12_rows 62 = .ok (.aload_n 0, 1) := by decide +kernel
theorem dX12_rows_63 : decode cX12_rows 63 = .ok (.getfield 381, 3) := by decide +kernel
theorem dX12_rows_66 : decode cX12_rows 66 = .ok (.iload_n 2, 1) := by decide +kernel
theorem dX12_rows_67 : decode cX12_rows 67 = .ok (.iaload, 1) := by decide +kernel
theorem dX12_rows_68 : decode cX12_rows 68 = .ok (.i2l, 1) := by decide +kernel
theorem dX12_rows_69 : decode cX12_rows 69 = .ok (.lconst 0, 1) := by decide +kernel
theorem dX12_rows_70 : decode cX12_rows 70 = .ok (.invokevirtual 622, 3) := by decide +kernel
theorem dX12_rows_73 : decode cX12_rows 73 = .ok (.goto 32, 3) := by decide +kernel
theorem dX12_rows_76 : decode cX12_rows 76 = .ok (.aload_n 0, 1) := by decide +kernel
theorem dX12_rows_77 : decode cX12_rows 77 = .ok (.aload_n 0, 1) := by decide +kernel
theorem dX12_rows_78 : decode cX12_rows 78 = .ok (.getfield 529, 3) := by decide +kernel
theorem dX12_rows_81 : decode cX12_rows 81 = .ok (.iload_n 1, 1) := by decide +kernel
theorem dX12_rows_82 : decode cX12_rows 82 = .ok (.iaload, 1) := by decide +kernel
theorem dX12_rows_83 : decode cX12_rows 83 = .ok (.aload_n 0, 1) := by decide +kernel
theorem dX12_rows_84 : decode cX12_rows 84 = .ok (.getfield 351, 3) := by decide +kernel
theorem dX12_rows_87 : decode cX12_rows 87 = .ok (.iload_n 2, 1) := by decide +kernel
theorem dX12_rows_88 : decode cX12_rows 88 = .ok (.iaload, 1) := by decide +kernel
theorem dX12_rows_89 : decode cX12_rows 89 = .ok (.i2l, 1) := by decide +kernel
theorem dX12_rows_90 : decode cX12_rows 90 = .ok (.aload_n 0, 1) := by decide +kernel
theorem dX12_rows_91 : decode cX12_rows 91 = .ok (.iload_n 1, 1) := by decide +kernel
theorem dX12_rows_92 : decode cX12_rows 92 = .ok (.invokevirtual 619, 3) := by decide +kernel
theorem dX12_rows_95 : decode cX12_rows 95 = .ok (.ldiv, 1) := by decide +kernel
theorem dX12_rows_96 : decode cX12_rows 96 = .ok (.aload_n 0, 1) := by decide +kernel
theorem dX12_rows_97 : decode cX12_rows 97 = .ok (.iload_n 2, 1) := by decide +kernel
theorem dX12_rows_98 : decode cX12_rows 98 = .ok (.lload_n 3, 1) := by decide +kernel
theorem dX12_rows_99 : decode cX12_rows 99 = .ok (.invokevirtual 646, 3) := by decide +kernel
theorem dX12_rows_102 : decode cX12_rows 102 = .ok (.invokevirtual 622, 3) := by decide +kernel
theorem dX12_rows_105 : decode cX12_rows 105 = .ok (.aload_n 0, 1) := by decide +kernel
theorem dX12_rows_106 : decode cX12_rows 106 = .ok (.aload_n 0, 1) := by decide +kernel
theorem dX12_rows_107 : decode cX12_rows 107 = .ok (.getfield 529, 3) := by decide +kernel
theorem dX12_rows_110 : decode cX12_rows 110 = .ok (.iload_n 1, 1) := by decide +kernel
theorem dX12_rows_111 : decode cX12_rows 111 = .ok (.iaload, 1) := by decide +kernel
theorem dX12_rows_112 : decode cX12_rows 112 = .ok (.lload_n 3, 1) := by decide +kernel
theorem dX12_rows_113 : decode cX12_rows 113 = .ok (.aload_n 0, 1) := by decide +kernel
theorem dX12_rows_114 : decode cX12_rows 114 = .ok (.getfield 351, 3) := by decide +kernel
theorem dX12_rows_117 : decode cX12_rows 117 = .ok (.iload_n 2, 1) := by decide +kernel
theorem dX12_rows_118 : decode cX12_rows 118 = .ok (.iaload, 1) := by decide +kernel
theorem dX12_rows_119 : decode cX12_rows 119 = .ok (.i2l, 1) := by decide +kernel
theorem dX12_rows_120 : decode cX12_rows 120 = .ok (.lmul, 1) := by decide +kernel
theorem dX12_rows_121 : decode cX12_rows 121 = .ok (.lload_n 3, 1) := by decide +kernel
theorem dX12_rows_122 : decode cX12_rows 122 = .ok (.lconst 1, 1) := by decide +kernel
theorem dX12_rows_123 : decode cX12_rows 123 = .ok (.ladd, 1) := by decide +kernel
theorem dX12_rows_124 : decode cX12_rows 124 = .ok (.aload_n 0, 1) := by decide +kernel
theorem dX12_rows_125 : decode cX12_rows 125 = .ok (.getfield 351, 3) := by decide +kernel
theorem dX12_rows_128 : decode cX12_rows 128 = .ok (.iload_n 2, 1) := by decide +kernel
theorem dX12_rows_129 : decode cX12_rows 129 = .ok (.iaload, 1) := by decide +kernel
theorem dX12_rows_130 : decode cX12_rows 130 = .ok (.i2l, 1) := by decide +kernel
theorem dX12_rows_131 : decode cX12_rows 131 = .ok (.lmul, 1) := by decide +kernel
theorem dX12_rows_132 : decode cX12_rows 132 = .ok (.invokevirtual 650, 3) := by decide +kernel
theorem dX12_rows_135 : decode cX12_rows 135 = .ok (.aload_n 0, 1) := by decide +kernel
theorem dX12_rows_136 : decode cX12_rows 136 = .ok (.getfield 541, 3) := by decide +kernel
theorem dX12_rows_139 : decode cX12_rows 139 = .ok (.iload_n 1, 1) := by decide +kernel
theorem dX12_rows_140 : decode cX12_rows 140 = .ok (.dup2, 1) := by decide +kernel
theorem dX12_rows_141 : decode cX12_rows 141 = .ok (.laload, 1) := by decide +kernel
theorem dX12_rows_142 : decode cX12_rows 142 = .ok (.lconst 1, 1) := by decide +kernel
theorem dX12_rows_143 : decode cX12_rows 143 = .ok (.ladd, 1) := by decide +kernel
theorem dX12_rows_144 : decode cX12_rows 144 = .ok (.lastore, 1) := by decide +kernel
theorem dX12_rows_145 : decode cX12_rows 145 = .ok (.aload_n 0, 1) := by decide +kernel
theorem dX12_rows_146 : decode cX12_rows 146 = .ok (.getfield 541, 3) := by decide +kernel
theorem dX12_rows_149 : decode cX12_rows 149 = .ok (.iload_n 1, 1) := by decide +kernel
theorem dX12_rows_150 : decode cX12_rows 150 = .ok (.laload, 1) := by decide +kernel
theorem dX12_rows_151 : decode cX12_rows 151 = .ok (.aload_n 0, 1) := by decide +kernel
theorem dX12_rows_152 : decode cX12_rows 152 = .ok (.getfield 544, 3) := by decide +kernel
theorem dX12_rows_155 : decode cX12_rows 155 = .ok (.iload_n 1, 1) := by decide +kernel
theorem dX12_rows_156 : decode cX12_rows 156 = .ok (.laload, 1) := by decide +kernel
theorem dX12_rows_157 : decode cX12_rows 157 = .ok (.lcmp, 1) := by decide +kernel
theorem dX12_rows_158 : decode cX12_rows 158 = .ok (.ifCond .gt 17, 3) := by decide +kernel
theorem dX12_rows_161 : decode cX12_rows 161 = .ok (.aload_n 0, 1) := by decide +kernel
theorem dX12_rows_162 : decode cX12_rows 162 = .ok (.iload_n 1, 1) := by decide +kernel
theorem dX12_rows_163 : decode cX12_rows 163 = .ok (.iconst 0, 1) := by decide +kernel
theorem dX12_rows_164 : decode cX12_rows 164 = .ok (.aload_n 0, 1) := by decide +kernel
theorem dX12_rows_165 : decode cX12_rows 165 = .ok (.getfield 541, 3) := by decide +kernel
theorem dX12_rows_168 : decode cX12_rows 168 = .ok (.iload_n 1, 1) := by decide +kernel
theorem dX12_rows_169 : decode cX12_rows 169 = .ok (.laload, 1) := by decide +kernel
theorem dX12_rows_170 : decode cX12_rows 170 = .ok (.invokevirtual 626, 3) := by decide +kernel
theorem dX12_rows_173 : decode cX12_rows 173 = .ok (.iconst 1, 1) := by decide +kernel
theorem dX12_rows_174 : decode cX12_rows 174 = .ok (.ireturn, 1) := by decide +kernel
theorem dX12_rows_175 : decode cX12_rows 175 = .ok (.aload_n 0, 1) := by decide +kernel
theorem dX12_rows_176 : decode cX12_rows 176 = .ok (.getfield 375, 3) := by decide +kernel
theorem dX12_rows_179 : decode cX12_rows 179 = .ok (.iload_n 2, 1) := by decide +kernel
theorem dX12_rows_180 : decode cX12_rows 180 = .ok (.iaload, 1) := by decide +kernel
theorem dX12_rows_181 : decode cX12_rows 181 = .ok (.bipush 18, 2) := by decide +kernel
theorem dX12_rows_183 : decode cX12_rows 183 = .ok (.if_icmp .ne 13, 3) := by decide +kernel
theorem dX12_rows_186 : decode cX12_rows 186 = .ok (.aload_n 0, 1) := by decide +kernel
theorem dX12_rows_187 : decode cX12_rows 187 = .ok (.aload_n 0, 1) := by decide +kernel
theorem dX12_rows_188 : decode cX12_rows 188 = .ok (.getfield 523, 3) := by decide +kernel
theorem dX12_rows_191 : decode cX12_rows 191 = .ok (.iload_n 1, 1) := by decide +kernel
theorem dX12_rows_192 : decode cX12_rows 192 = .ok (.iaload, 1) := by decide +kernel
theorem dX12_rows_193 : decode cX12_rows 193 = .ok (.invokevirtual 630, 3) := by decide +kernel
theorem dX12_rows_196 : decode cX12_rows 196 = .ok (.iconst 0, 1) := by decide +kernel
theorem dX12_rows_197 : decode cX12_rows 197 = .ok (.ireturn, 1) := by decide +kernel
theorem dX12_span_0 : decode cX12_span 0 = .ok (.aload_n 0, 1) := by decide +kernel
theorem dX12_span_1 : decode cX12_span 1 = .ok (.getfield 378, 3) := by decide +kernel
theorem dX12_span_4 : decode cX12_span 4 = .ok (.iload_n 2, 1) := by decide +kernel
theorem dX12_span_5 : decode cX12_span 5 = .ok (.iaload, 1) := by decide +kernel
theorem dX12_span_6 : decode cX12_span 6 = .ok (.i2l, 1) := by decide +kernel
theorem dX12_span_7 : decode cX12_span 7 = .ok (.lstore 5, 2) := by decide +kernel
theorem dX12_span_9 : decode cX12_span 9 = .ok (.aload_n 0, 1) := by decide +kernel
theorem dX12_span_10 : decode cX12_span 10 = .ok (.getfield 381, 3) := by decide +kernel
theorem dX12_span_13 : decode cX12_span 13 = .ok (.iload_n 2, 1) := by decide +kernel
theorem dX12_span_14 : decode cX12_span 14 = .ok (.iaload, 1) := by decide +kernel
theorem dX12_span_15 : decode cX12_span 15 = .ok (.i2l, 1) := by decide +kernel
theorem dX12_span_16 : decode cX12_span 16 = .ok (.lstore 7, 2) := by decide +kernel
theorem dX12_span_18 : decode cX12_span 18 = .ok (.aload_n 0, 1) := by decide +kernel
theorem dX12_span_19 : decode cX12_span 19 = .ok (.getfield 375, 3) := by decide +kernel
theorem dX12_span_22 : decode cX12_span 22 = .ok (.iload_n 2, 1) := by decide +kernel
theorem dX12_span_23 : decode cX12_span 23 = .ok (.iaload, 1) := by decide +kernel
theorem dX12_span_24 : decode cX12_span 24 = .ok (.tableswitch 228 9 17 #[52, 94, 135, 228, 228, 228, 228, 228, 194], 52) := by decide +kernel
theorem dX12_span_76 : decode cX12_span 76 = .ok (.aload_n 0, 1) := by decide +kernel
theorem dX12_span_77 : decode cX12_span 77 = .ok (.getfield 541, 3) := by decide +kernel
theorem dX12_span_80 : decode cX12_span 80 = .ok (.iload_n 1, 1) := by decide +kernel
theorem dX12_span_81 : decode cX12_span 81 = .ok (.lload_n 3, 1) := by decide +kernel
theorem dX12_span_82 : decode cX12_span 82 = .ok (.lload 5, 2) := by decide +kernel
theorem dX12_span_84 : decode cX12_span 84 = .ok (.lmul, 1) := by decide +kernel
theorem dX12_span_85 : decode cX12_span 85 = .ok (.lload 7, 2) := by decide +kernel
theorem dX12_span_87 : decode cX12_span 87 = .ok (.invokestatic 508, 3) := by decide +kernel
theorem dX12_span_90 : decode cX12_span 90 = .ok (.lastore, 1) := by decide +kernel
theorem dX12_span_91 : decode cX12_span 91 = .ok (.aload_n 0, 1) := by decide +kernel
theorem dX12_span_92 : decode cX12_span 92 = .ok (.getfield 544, 3) := by decide +kernel
theorem dX12_span_95 : decode cX12_span 95 = .ok (.iload_n 1, 1) := by decide +kernel
theorem dX12_span_96 : decode cX12_span 96 = .ok (.lload_n 3, 1) := by decide +kernel
theorem dX12_span_97 : decode cX12_span 97 = .ok (.lconst 1, 1) := by decide +kernel
theorem dX12_span_98 : decode cX12_span 98 = .ok (.ladd, 1) := by decide +kernel
theorem dX12_span_99 : decode cX12_span 99 = .ok (.lload 5, 2) := by decide +kernel
theorem dX12_span_101 : decode cX12_span 101 = .ok (.lmul, 1) := by decide +kernel
theorem dX12_span_102 : decode cX12_span 102 = .ok (.lload 7, 2) := by decide +kernel
theorem dX12_span_104 : decode cX12_span 104 = .ok (.ladd, 1) := by decide +kernel
theorem dX12_span_105 : decode cX12_span 105 = .ok (.lconst 1, 1) := by decide +kernel
theorem dX12_span_106 : decode cX12_span 106 = .ok (.lsub, 1) := by decide +kernel
theorem dX12_span_107 : decode cX12_span 107 = .ok (.lload 7, 2) := by decide +kernel
theorem dX12_span_109 : decode cX12_span 109 = .ok (.invokestatic 508, 3) := by decide +kernel
theorem dX12_span_112 : decode cX12_span 112 = .ok (.lconst 1, 1) := by decide +kernel
theorem dX12_span_113 : decode cX12_span 113 = .ok (.lsub, 1) := by decide +kernel
theorem dX12_span_114 : decode cX12_span 114 = .ok (.lastore, 1) := by decide +kernel
theorem dX12_span_115 : decode cX12_span 115 = .ok (.goto 169, 3) := by decide +kernel
theorem dX12_span_118 : decode cX12_span 118 = .ok (.aload_n 0, 1) := by decide +kernel
theorem dX12_span_119 : decode cX12_span 119 = .ok (.getfield 541, 3) := by decide +kernel
theorem dX12_span_122 : decode cX12_span 122 = .ok (.iload_n 1, 1) := by decide +kernel
theorem dX12_span_123 : decode cX12_span 123 = .ok (.lload_n 3, 1) := by decide +kernel
theorem dX12_span_124 : decode cX12_span 124 = .ok (.lload 5, 2) := by decide +kernel
theorem dX12_span_126 : decode cX12_span 126 = .ok (.lload 7, 2) := by decide +kernel
theorem dX12_span_128 : decode cX12_span 128 = .ok (.ldiv, 1) := by decide +kernel
theorem dX12_span_129 : decode cX12_span 129 = .ok (.ladd, 1) := by decide +kernel
theorem dX12_span_130 : decode cX12_span 130 = .ok (.lastore, 1) := by decide +kernel
theorem dX12_span_131 : decode cX12_span 131 = .ok (.aload_n 0, 1) := by decide +kernel
theorem dX12_span_132 : decode cX12_span 132 = .ok (.getfield 544, 3) := by decide +kernel
theorem dX12_span_135 : decode cX12_span 135 = .ok (.iload_n 1, 1) := by decide +kernel
theorem dX12_span_136 : decode cX12_span 136 = .ok (.aload_n 0, 1) := by decide +kernel
theorem dX12_span_137 : decode cX12_span 137 = .ok (.getfield 541, 3) := by decide +kernel
theorem dX12_span_140 : decode cX12_span 140 = .ok (.iload_n 1, 1) := by decide +kernel
theorem dX12_span_141 : decode cX12_span 141 = .ok (.laload, 1) := by decide +kernel
theorem dX12_span_142 : decode cX12_span 142 = .ok (.lload 7, 2) := by decide +kernel
theorem dX12_span_144 : decode cX12_span 144 = .ok (.lconst 1, 1) := by decide +kernel
theorem dX12_span_145 : decode cX12_span 145 = .ok (.lcmp, 1) := by decide +kernel
theorem dX12_span_146 : decode cX12_span 146 = .ok (.ifCond .ne 7, 3) := by decide +kernel
theorem dX12_span_149 : decode cX12_span 149 = .ok (.lconst 0, 1) := by decide +kernel
theorem dX12_span_150 : decode cX12_span 150 = .ok (.goto 4, 3) := by decide +kernel
theorem dX12_span_153 : decode cX12_span 153 = .ok (.lconst 1, 1) := by decide +kernel
theorem dX12_span_154 : decode cX12_span 154 = .ok (.ladd, 1) := by decide +kernel
theorem dX12_span_155 : decode cX12_span 155 = .ok (.lastore, 1) := by decide +kernel
theorem dX12_span_156 : decode cX12_span 156 = .ok (.goto 128, 3) := by decide +kernel
theorem dX12_span_159 : decode cX12_span 159 = .ok (.aload_n 0, 1) := by decide +kernel
theorem dX12_span_160 : decode cX12_span 160 = .ok (.getfield 541, 3) := by decide +kernel
theorem dX12_span_163 : decode cX12_span 163 = .ok (.iload_n 1, 1) := by decide +kernel
theorem dX12_span_164 : decode cX12_span 164 = .ok (.lload 7, 2) := by decide +kernel
theorem dX12_span_166 : decode cX12_span 166 = .ok (.lconst 1, 1) := by decide +kernel
theorem dX12_span_167 : decode cX12_span 167 = .ok (.lcmp, 1) := by decide +kernel
theorem dX12_span_168 : decode cX12_span 168 = .ok (.ifCond .ne 10, 3) := by decide +kernel
theorem dX12_span_171 : decode cX12_span 171 = .ok (.lload_n 3, 1) := by decide +kernel
theorem dX12_span_172 : decode cX12_span 172 = .ok (.lload 5, 2) := by decide +kernel
theorem dX12_span_174 : decode cX12_span 174 = .ok (.lsub, 1) := by decide +kernel
theorem dX12_span_175 : decode cX12_span 175 = .ok (.goto 12, 3) := by decide +kernel
theorem dX12_span_178 : decode cX12_span 178 = .ok (.lload_n 3, 1) := by decide +kernel
theorem dX12_span_179 : decode cX12_span 179 = .ok (.lload 5, 2) := by decide +kernel
theorem dX12_span_181 : decode cX12_span 181 = .ok (.lload 7, 2) := by decide +kernel
theorem dX12_span_183 : decode cX12_span 183 = .ok (.ldiv, 1) := by decide +kernel
theorem dX12_span_184 : decode cX12_span 184 = .ok (.lsub, 1) := by decide +kernel
theorem dX12_span_185 : decode cX12_span 185 = .ok (.lconst 1, 1) := by decide +kernel
theorem dX12_span_186 : decode cX12_span 186 = .ok (.lsub, 1) := by decide +kernel
theorem dX12_span_187 : decode cX12_span 187 = .ok (.lastore, 1) := by decide +kernel
theorem dX12_span_188 : decode cX12_span 188 = .ok (.aload_n 0, 1) := by decide +kernel
theorem dX12_span_189 : decode cX12_span 189 = .ok (.getfield 544, 3) := by decide +kernel
theorem dX12_span_192 : decode cX12_span 192 = .ok (.iload_n 1, 1) := by decide +kernel
theorem dX12_span_193 : decode cX12_span 193 = .ok (.lload 7, 2) := by decide +kernel
theorem dX12_span_195 : decode cX12_span 195 = .ok (.lconst 1, 1) := by decide +kernel
theorem dX12_span_196 : decode cX12_span 196 = .ok (.lcmp, 1) := by decide +kernel
theorem dX12_span_197 : decode cX12_span 197 = .ok (.ifCond .ne 10, 3) := by decide +kernel
theorem dX12_span_200 : decode cX12_span 200 = .ok (.lload_n 3, 1) := by decide +kernel
theorem dX12_span_201 : decode cX12_span 201 = .ok (.lload 5, 2) := by decide +kernel
theorem dX12_span_203 : decode cX12_span 203 = .ok (.lsub, 1) := by decide +kernel
theorem dX12_span_204 : decode cX12_span 204 = .ok (.goto 10, 3) := by decide +kernel
theorem dX12_span_207 : decode cX12_span 207 = .ok (.lload_n 3, 1) := by decide +kernel
theorem dX12_span_208 : decode cX12_span 208 = .ok (.lload 5, 2) := by decide +kernel
theorem dX12_span_210 : decode cX12_span 210 = .ok (.lload 7, 2) := by decide +kernel
theorem dX12_span_212 : decode cX12_span 212 = .ok (.ldiv, 1) := by decide +kernel
theorem dX12_span_213 : decode cX12_span 213 = .ok (.lsub, 1) := by decide +kernel
theorem dX12_span_214 : decode cX12_span 214 = .ok (.lastore, 1) := by decide +kernel
theorem dX12_span_215 : decode cX12_span 215 = .ok (.goto 69, 3) := by decide +kernel
theorem dX12_span_218 : decode cX12_span 218 = .ok (.aload_n 0, 1) := by decide +kernel
theorem dX12_span_219 : decode cX12_span 219 = .ok (.getfield 541, 3) := by decide +kernel
theorem dX12_span_222 : decode cX12_span 222 = .ok (.iload_n 1, 1) := by decide +kernel
theorem dX12_span_223 : decode cX12_span 223 = .ok (.lload_n 3, 1) := by decide +kernel
theorem dX12_span_224 : decode cX12_span 224 = .ok (.lastore, 1) := by decide +kernel
theorem dX12_span_225 : decode cX12_span 225 = .ok (.aload_n 0, 1) := by decide +kernel
theorem dX12_span_226 : decode cX12_span 226 = .ok (.getfield 544, 3) := by decide +kernel
theorem dX12_span_229 : decode cX12_span 229 = .ok (.iload_n 1, 1) := by decide +kernel
theorem dX12_span_230 : decode cX12_span 230 = .ok (.lload_n 3, 1) := by decide +kernel
theorem dX12_span_231 : decode cX12_span 231 = .ok (.lload 5, 2) := by decide +kernel
theorem dX12_span_233 : decode cX12_span 233 = .ok (.invokestatic 633, 3) := by decide +kernel
theorem dX12_span_236 : decode cX12_span 236 = .ok (.lconst 0, 1) := by decide +kernel
theorem dX12_span_237 : decode cX12_span 237 = .ok (.lcmp, 1) := by decide +kernel
theorem dX12_span_238 : decode cX12_span 238 = .ok (.ifCond .ne 7, 3) := by decide +kernel
theorem dX12_span_241 : decode cX12_span 241 = .ok (.lload_n 3, 1) := by decide +kernel
theorem dX12_span_242 : decode cX12_span 242 = .ok (.goto 6, 3) := by decide +kernel
theorem dX12_span_245 : decode cX12_span 245 = .ok (.lload_n 3, 1) := by decide +kernel
theorem dX12_span_246 : decode cX12_span 246 = .ok (.lconst 1, 1) := by decide +kernel
theorem dX12_span_247 : decode cX12_span 247 = .ok (.ladd, 1) := by decide +kernel
theorem dX12_span_248 : decode cX12_span 248 = .ok (.lastore, 1) := by decide +kernel
theorem dX12_span_249 : decode cX12_span 249 = .ok (.goto 35, 3) := by decide +kernel
theorem dX12_span_252 : decode cX12_span 252 = .ok (.aload_n 0, 1) := by decide +kernel
theorem dX12_span_253 : decode cX12_span 253 = .ok (.getfield 541, 3) := by decide +kernel
theorem dX12_span_256 : decode cX12_span 256 = .ok (.iload_n 1, 1) := by decide +kernel
theorem dX12_span_257 : decode cX12_span 257 = .ok (.lload_n 3, 1) := by decide +kernel
theorem dX12_span_258 : decode cX12_span 258 = .ok (.aload_n 0, 1) := by decide +kernel
theorem dX12_span_259 : decode cX12_span 259 = .ok (.getfield 360, 3) := by decide +kernel
theorem dX12_span_262 : decode cX12_span 262 = .ok (.aload_n 0, 1) := by decide +kernel
theorem dX12_span_263 : decode cX12_span 263 = .ok (.getfield 345, 3) := by decide +kernel
theorem dX12_span_266 : decode cX12_span 266 = .ok (.aload_n 0, 1) := by decide +kernel
theorem dX12_span_267 : decode cX12_span 267 = .ok (.getfield 339, 3) := by decide +kernel
theorem dX12_span_270 : decode cX12_span 270 = .ok (.iload_n 2, 1) := by decide +kernel
theorem dX12_span_271 : decode cX12_span 271 = .ok (.iaload, 1) := by decide +kernel
theorem dX12_span_272 : decode cX12_span 272 = .ok (.iaload, 1) := by decide +kernel
theorem dX12_span_273 : decode cX12_span 273 = .ok (.iaload, 1) := by decide +kernel
theorem dX12_span_274 : decode cX12_span 274 = .ok (.i2l, 1) := by decide +kernel
theorem dX12_span_275 : decode cX12_span 275 = .ok (.lsub, 1) := by decide +kernel
theorem dX12_span_276 : decode cX12_span 276 = .ok (.lastore, 1) := by decide +kernel
theorem dX12_span_277 : decode cX12_span 277 = .ok (.aload_n 0, 1) := by decide +kernel
theorem dX12_span_278 : decode cX12_span 278 = .ok (.getfield 544, 3) := by decide +kernel
theorem dX12_span_281 : decode cX12_span 281 = .ok (.iload_n 1, 1) := by decide +kernel
theorem dX12_span_282 : decode cX12_span 282 = .ok (.lload_n 3, 1) := by decide +kernel
theorem dX12_span_283 : decode cX12_span 283 = .ok (.lastore, 1) := by decide +kernel
theorem dX12_span_284 : decode cX12_span 284 = .ok (.return_, 1) := by decide +kernel
theorem dX12_shift_0 : decode cX12_shift 0 = .ok (.aload_n 0, 1) := by decide +kernel
theorem dX12_shift_1 : decode cX12_shift 1 = .ok (.getfield 375, 3) := by decide +kernel
theorem dX12_shift_4 : decode cX12_shift 4 = .ok (.iload_n 1, 1) := by decide +kernel
theorem dX12_shift_5 : decode cX12_shift 5 = .ok (.iaload, 1) := by decide +kernel
theorem dX12_shift_6 : decode cX12_shift 6 = .ok (.bipush 17, 2) := by decide +kernel
theorem dX12_shift_8 : decode cX12_shift 8 = .ok (.if_icmp .ne 31, 3) := by decide +kernel
theorem dX12_shift_11 : decode cX12_shift 11 = .ok (.lload_n 2, 1) := by decide +kernel
theorem dX12_shift_12 : decode cX12_shift 12 = .ok (.aload_n 0, 1) := by decide +kernel
theorem dX12_shift_13 : decode cX12_shift 13 = .ok (.getfield 378, 3) := by decide +kernel
theorem dX12_shift_16 : decode cX12_shift 16 = .ok (.iload_n 1, 1) := by decide +kernel
theorem dX12_shift_17 : decode cX12_shift 17 = .ok (.iaload, 1) := by decide +kernel
theorem dX12_shift_18 : decode cX12_shift 18 = .ok (.i2l, 1) := by decide +kernel
theorem dX12_shift_19 : decode cX12_shift 19 = .ok (.invokestatic 633, 3) := by decide +kernel
theorem dX12_shift_22 : decode cX12_shift 22 = .ok (.lneg, 1) := by decide +kernel
theorem dX12_shift_23 : decode cX12_shift 23 = .ok (.aload_n 0, 1) := by decide +kernel
theorem dX12_shift_24 : decode cX12_shift 24 = .ok (.getfield 351, 3) := by decide +kernel
theorem dX12_shift_27 : decode cX12_shift 27 = .ok (.iload_n 1, 1) := by decide +kernel
theorem dX12_shift_28 : decode cX12_shift 28 = .ok (.iaload, 1) := by decide +kernel
theorem dX12_shift_29 : decode cX12_shift 29 = .ok (.aload_n 0, 1) := by decide +kernel
theorem dX12_shift_30 : decode cX12_shift 30 = .ok (.getfield 378, 3) := by decide +kernel
theorem dX12_shift_33 : decode cX12_shift 33 = .ok (.iload_n 1, 1) := by decide +kernel
theorem dX12_shift_34 : decode cX12_shift 34 = .ok (.iaload, 1) := by decide +kernel
theorem dX12_shift_35 : decode cX12_shift 35 = .ok (.idiv, 1) := by decide +kernel
theorem dX12_shift_36 : decode cX12_shift 36 = .ok (.i2l, 1) := by decide +kernel
theorem dX12_shift_37 : decode cX12_shift 37 = .ok (.lmul, 1) := by decide +kernel
theorem dX12_shift_38 : decode cX12_shift 38 = .ok (.lreturn, 1) := by decide +kernel
theorem dX12_shift_39 : decode cX12_shift 39 = .ok (.aload_n 0, 1) := by decide +kernel
theorem dX12_shift_40 : decode cX12_shift 40 = .ok (.getfield 378, 3) := by decide +kernel
theorem dX12_shift_43 : decode cX12_shift 43 = .ok (.iload_n 1, 1) := by decide +kernel
theorem dX12_shift_44 : decode cX12_shift 44 = .ok (.iaload, 1) := by decide +kernel
theorem dX12_shift_45 : decode cX12_shift 45 = .ok (.i2l, 1) := by decide +kernel
theorem dX12_shift_46 : decode cX12_shift 46 = .ok (.aload_n 0, 1) := by decide +kernel
theorem dX12_shift_47 : decode cX12_shift 47 = .ok (.getfield 351, 3) := by decide +kernel
theorem dX12_shift_50 : decode cX12_shift 50 = .ok (.iload_n 1, 1) := by decide +kernel
theorem dX12_shift_51 : decode cX12_shift 51 = .ok (.iaload, 1) := by decide +kernel
theorem dX12_shift_52 : decode cX12_shift 52 = .ok (.aload_n 0, 1) := by decide +kernel
theorem dX12_shift_53 : decode cX12_shift 53 = .ok (.getfield 381, 3) := by decide +kernel
theorem dX12_shift_56 : decode cX12_shift 56 = .ok (.iload_n 1, 1) := by decide +kernel
theorem dX12_shift_57 : decode cX12_shift 57 = .ok (.iaload, 1) := by decide +kernel
theorem dX12_shift_58 : decode cX12_shift 58 = .ok (.idiv, 1) := by decide +kernel
theorem dX12_shift_59 : decode cX12_shift 59 = .ok (.i2l, 1) := by decide +kernel
theorem dX12_shift_60 : decode cX12_shift 60 = .ok (.lmul, 1) := by decide +kernel
theorem dX12_shift_61 : decode cX12_shift 61 = .ok (.lstore 4, 2) := by decide +kernel
theorem dX12_shift_63 : decode cX12_shift 63 = .ok (.aload_n 0, 1) := by decide +kernel
theorem dX12_shift_64 : decode cX12_shift 64 = .ok (.getfield 375, 3) := by decide +kernel
theorem dX12_shift_67 : decode cX12_shift 67 = .ok (.iload_n 1, 1) := by decide +kernel
theorem dX12_shift_68 : decode cX12_shift 68 = .ok (.iaload, 1) := by decide +kernel
theorem dX12_shift_69 : decode cX12_shift 69 = .ok (.bipush 10, 2) := by decide +kernel
theorem dX12_shift_71 : decode cX12_shift 71 = .ok (.if_icmp .ne 9, 3) := by decide +kernel
theorem dX12_shift_74 : decode cX12_shift 74 = .ok (.lload 4, 2) := by decide +kernel
theorem dX12_shift_76 : decode cX12_shift 76 = .ok (.lneg, 1) := by decide +kernel
theorem dX12_shift_77 : decode cX12_shift 77 = .ok (.goto 5, 3) := by decide +kernel
theorem dX12_shift_80 : decode cX12_shift 80 = .ok (.lload 4, 2) := by decide +kernel
theorem dX12_shift_82 : decode cX12_shift 82 = .ok (.lreturn, 1) := by decide +kernel
theorem dX12_ply_0 : decode cX12_ply 0 = .ok (.aload_n 0, 1) := by decide +kernel
theorem dX12_ply_1 : decode cX12_ply 1 = .ok (.getfield 529, 3) := by decide +kernel
theorem dX12_ply_4 : decode cX12_ply 4 = .ok (.iload_n 1, 1) := by decide +kernel
theorem dX12_ply_5 : decode cX12_ply 5 = .ok (.iaload, 1) := by decide +kernel
theorem dX12_ply_6 : decode cX12_ply 6 = .ok (.istore_n 3, 1) := by decide +kernel
theorem dX12_ply_7 : decode cX12_ply 7 = .ok (.aload_n 0, 1) := by decide +kernel
theorem dX12_ply_8 : decode cX12_ply 8 = .ok (.getfield 526, 3) := by decide +kernel
theorem dX12_ply_11 : decode cX12_ply 11 = .ok (.istore 4, 2) := by decide +kernel
theorem dX12_ply_13 : decode cX12_ply 13 = .ok (.iload_n 3, 1) := by decide +kernel
theorem dX12_ply_14 : decode cX12_ply 14 = .ok (.istore 5, 2) := by decide +kernel
theorem dX12_ply_16 : decode cX12_ply 16 = .ok (.iload 5, 2) := by decide +kernel
theorem dX12_ply_18 : decode cX12_ply 18 = .ok (.iload 4, 2) := by decide +kernel
theorem dX12_ply_20 : decode cX12_ply 20 = .ok (.if_icmp .ge 109, 3) := by decide +kernel
theorem dX12_ply_23 : decode cX12_ply 23 = .ok (.aload_n 0, 1) := by decide +kernel
theorem dX12_ply_24 : decode cX12_ply 24 = .ok (.getfield 557, 3) := by decide +kernel
theorem dX12_ply_27 : decode cX12_ply 27 = .ok (.iload 5, 2) := by decide +kernel
theorem dX12_ply_29 : decode cX12_ply 29 = .ok (.laload, 1) := by decide +kernel
theorem dX12_ply_30 : decode cX12_ply 30 = .ok (.aload_n 0, 1) := by decide +kernel
theorem dX12_ply_31 : decode cX12_ply 31 = .ok (.getfield 554, 3) := by decide +kernel
theorem dX12_ply_34 : decode cX12_ply 34 = .ok (.iload 5, 2) := by decide +kernel
theorem dX12_ply_36 : decode cX12_ply 36 = .ok (.laload, 1) := by decide +kernel
theorem dX12_ply_37 : decode cX12_ply 37 = .ok (.lsub, 1) := by decide +kernel
theorem dX12_ply_38 : decode cX12_ply 38 = .ok (.lstore 6, 2) := by decide +kernel
theorem dX12_ply_40 : decode cX12_ply 40 = .ok (.iconst 0, 1) := by decide +kernel
theorem dX12_ply_41 : decode cX12_ply 41 = .ok (.istore 8, 2) := by decide +kernel
theorem dX12_ply_43 : decode cX12_ply 43 = .ok (.iload 8, 2) := by decide +kernel
theorem dX12_ply_45 : decode cX12_ply 45 = .ok (.iload_n 2, 1) := by decide +kernel
theorem dX12_ply_46 : decode cX12_ply 46 = .ok (.if_icmp .ge 77, 3) := by decide +kernel
theorem dX12_ply_49 : decode cX12_ply 49 = .ok (.aload_n 0, 1) := by decide +kernel
theorem dX12_ply_50 : decode cX12_ply 50 = .ok (.aload_n 0, 1) := by decide +kernel
theorem dX12_ply_51 : decode cX12_ply 51 = .ok (.getfield 554, 3) := by decide +kernel
theorem dX12_ply_54 : decode cX12_ply 54 = .ok (.iload 5, 2) := by decide +kernel
theorem dX12_ply_56 : decode cX12_ply 56 = .ok (.laload, 1) := by decide +kernel
theorem dX12_ply_57 : decode cX12_ply 57 = .ok (.iload_n 2, 1) := by decide +kernel
theorem dX12_ply_58 : decode cX12_ply 58 = .ok (.i2l, 1) := by decide +kernel
theorem dX12_ply_59 : decode cX12_ply 59 = .ok (.lmul, 1) := by decide +kernel
theorem dX12_ply_60 : decode cX12_ply 60 = .ok (.iload 8, 2) := by decide +kernel
theorem dX12_ply_62 : decode cX12_ply 62 = .ok (.i2l, 1) := by decide +kernel
theorem dX12_ply_63 : decode cX12_ply 63 = .ok (.lload 6, 2) := by decide +kernel
theorem dX12_ply_65 : decode cX12_ply 65 = .ok (.lmul, 1) := by decide +kernel
theorem dX12_ply_66 : decode cX12_ply 66 = .ok (.ladd, 1) := by decide +kernel
theorem dX12_ply_67 : decode cX12_ply 67 = .ok (.aload_n 0, 1) := by decide +kernel
theorem dX12_ply_68 : decode cX12_ply 68 = .ok (.getfield 554, 3) := by decide +kernel
theorem dX12_ply_71 : decode cX12_ply 71 = .ok (.iload 5, 2) := by decide +kernel
theorem dX12_ply_73 : decode cX12_ply 73 = .ok (.laload, 1) := by decide +kernel
theorem dX12_ply_74 : decode cX12_ply 74 = .ok (.iload_n 2, 1) := by decide +kernel
theorem dX12_ply_75 : decode cX12_ply 75 = .ok (.i2l, 1) := by decide +kernel
theorem dX12_ply_76 : decode cX12_ply 76 = .ok (.lmul, 1) := by decide +kernel
theorem dX12_ply_77 : decode cX12_ply 77 = .ok (.iload 8, 2) := by decide +kernel
theorem dX12_ply_79 : decode cX12_ply 79 = .ok (.i2l, 1) := by decide +kernel
theorem dX12_ply_80 : decode cX12_ply 80 = .ok (.lconst 1, 1) := by decide +kernel
theorem dX12_ply_81 : decode cX12_ply 81 = .ok (.ladd, 1) := by decide +kernel
theorem dX12_ply_82 : decode cX12_ply 82 = .ok (.lload 6, 2) := by decide +kernel
theorem dX12_ply_84 : decode cX12_ply 84 = .ok (.lmul, 1) := by decide +kernel
theorem dX12_ply_85 : decode cX12_ply 85 = .ok (.ladd, 1) := by decide +kernel
theorem dX12_ply_86 : decode cX12_ply 86 = .ok (.aload_n 0, 1) := by decide +kernel
theorem dX12_ply_87 : decode cX12_ply 87 = .ok (.getfield 560, 3) := by decide +kernel
theorem dX12_ply_90 : decode cX12_ply 90 = .ok (.iload 5, 2) := by decide +kernel
theorem dX12_ply_92 : decode cX12_ply 92 = .ok (.iaload, 1) := by decide +kernel
theorem dX12_ply_93 : decode cX12_ply 93 = .ok (.aload_n 0, 1) := by decide +kernel
theorem dX12_ply_94 : decode cX12_ply 94 = .ok (.getfield 563, 3) := by decide +kernel
theorem dX12_ply_97 : decode cX12_ply 97 = .ok (.iload 5, 2) := by decide +kernel
theorem dX12_ply_99 : decode cX12_ply 99 = .ok (.iaload, 1) := by decide +kernel
theorem dX12_ply_100 : decode cX12_ply 100 = .ok (.aload_n 0, 1) := by decide +kernel
theorem dX12_ply_101 : decode cX12_ply 101 = .ok (.getfield 566, 3) := by decide +kernel
theorem dX12_ply_104 : decode cX12_ply 104 = .ok (.iload 5, 2) := by decide +kernel
theorem dX12_ply_106 : decode cX12_ply 106 = .ok (.iaload, 1) := by decide +kernel
theorem dX12_ply_107 : decode cX12_ply 107 = .ok (.aload_n 0, 1) := by decide +kernel
theorem dX12_ply_108 : decode cX12_ply 108 = .ok (.getfield 569, 3) := by decide +kernel
theorem dX12_ply_111 : decode cX12_ply 111 = .ok (.iload 5, 2) := by decide +kernel
theorem dX12_ply_113 : decode cX12_ply 113 = .ok (.iaload, 1) := by decide +kernel
theorem dX12_ply_114 : decode cX12_ply 114 = .ok (.invokevirtual 587, 3) := by decide +kernel
theorem dX12_ply_117 : decode cX12_ply 117 = .ok (.iinc 8 1, 3) := by decide +kernel
theorem dX12_ply_120 : decode cX12_ply 120 = .ok (.goto (-77), 3) := by decide +kernel
theorem dX12_ply_123 : decode cX12_ply 123 = .ok (.iinc 5 1, 3) := by decide +kernel
theorem dX12_ply_126 : decode cX12_ply 126 = .ok (.goto (-110), 3) := by decide +kernel
theorem dX12_ply_129 : decode cX12_ply 129 = .ok (.aload_n 0, 1) := by decide +kernel
theorem dX12_ply_130 : decode cX12_ply 130 = .ok (.getfield 526, 3) := by decide +kernel
theorem dX12_ply_133 : decode cX12_ply 133 = .ok (.iload 4, 2) := by decide +kernel
theorem dX12_ply_135 : decode cX12_ply 135 = .ok (.isub, 1) := by decide +kernel
theorem dX12_ply_136 : decode cX12_ply 136 = .ok (.istore 5, 2) := by decide +kernel
theorem dX12_ply_138 : decode cX12_ply 138 = .ok (.iconst 0, 1) := by decide +kernel
theorem dX12_ply_139 : decode cX12_ply 139 = .ok (.istore 6, 2) := by decide +kernel
theorem dX12_ply_141 : decode cX12_ply 141 = .ok (.iload 6, 2) := by decide +kernel
theorem dX12_ply_143 : decode cX12_ply 143 = .ok (.iload 5, 2) := by decide +kernel
theorem dX12_ply_145 : decode cX12_ply 145 = .ok (.if_icmp .ge 22, 3) := by decide +kernel
theorem dX12_ply_148 : decode cX12_ply 148 = .ok (.aload_n 0, 1) := by decide +kernel
theorem dX12_ply_149 : decode cX12_ply 149 = .ok (.iload 4, 2) := by decide +kernel
theorem dX12_ply_151 : decode cX12_ply 151 = .ok (.iload 6, 2) := by decide +kernel
theorem dX12_ply_153 : decode cX12_ply 153 = .ok (.iadd, 1) := by decide +kernel
theorem dX12_ply_154 : decode cX12_ply 154 = .ok (.iload_n 3, 1) := by decide +kernel
theorem dX12_ply_155 : decode cX12_ply 155 = .ok (.iload 6, 2) := by decide +kernel
theorem dX12_ply_157 : decode cX12_ply 157 = .ok (.iadd, 1) := by decide +kernel
theorem dX12_ply_158 : decode cX12_ply 158 = .ok (.invokevirtual 584, 3) := by decide +kernel
theorem dX12_ply_161 : decode cX12_ply 161 = .ok (.iinc 6 1, 3) := by decide +kernel
theorem dX12_ply_164 : decode cX12_ply 164 = .ok (.goto (-23), 3) := by decide +kernel
theorem dX12_ply_167 : decode cX12_ply 167 = .ok (.aload_n 0, 1) := by decide +kernel
theorem dX12_ply_168 : decode cX12_ply 168 = .ok (.iload_n 3, 1) := by decide +kernel
theorem dX12_ply_169 : decode cX12_ply 169 = .ok (.iload 5, 2) := by decide +kernel
theorem dX12_ply_171 : decode cX12_ply 171 = .ok (.iadd, 1) := by decide +kernel
theorem dX12_ply_172 : decode cX12_ply 172 = .ok (.putfield 526, 3) := by decide +kernel
theorem dX12_ply_175 : decode cX12_ply 175 = .ok (.return_, 1) := by decide +kernel
theorem dX12_windows_0 : decode cX12_windows 0 = .ok (.aload_n 0, 1) := by decide +kernel
theorem dX12_windows_1 : decode cX12_windows 1 = .ok (.getfield 520, 3) := by decide +kernel
theorem dX12_windows_4 : decode cX12_windows 4 = .ok (.iload_n 1, 1) := by decide +kernel
theorem dX12_windows_5 : decode cX12_windows 5 = .ok (.iaload, 1) := by decide +kernel
theorem dX12_windows_6 : decode cX12_windows 6 = .ok (.ifCond .ne 12, 3) := by decide +kernel
theorem dX12_windows_9 : decode cX12_windows 9 = .ok (.aload_n 0, 1) := by decide +kernel
theorem dX12_windows_10 : decode cX12_windows 10 = .ok (.iload_n 1, 1) := by decide +kernel
theorem dX12_windows_11 : decode cX12_windows 11 = .ok (.iconst 0, 1) := by decide +kernel
theorem dX12_windows_12 : decode cX12_windows 12 = .ok (.lload_n 3, 1) := by decide +kernel
theorem dX12_windows_13 : decode cX12_windows 13 = .ok (.invokevirtual 626, 3) := by decide +kernel
theorem dX12_windows_16 : decode cX12_windows 16 = .ok (.iconst 1, 1) := by decide +kernel
theorem dX12_windows_17 : decode cX12_windows 17 = .ok (.ireturn, 1) := by decide +kernel
theorem dX12_windows_18 : decode cX12_windows 18 = .ok (.aload_n 0, 1) := by decide +kernel
theorem dX12_windows_19 : decode cX12_windows 19 = .ok (.aload_n 0, 1) := by decide +kernel
theorem dX12_windows_20 : decode cX12_windows 20 = .ok (.getfield 529, 3) := by decide +kernel
theorem dX12_windows_23 : decode cX12_windows 23 = .ok (.iload_n 1, 1) := by decide +kernel
theorem dX12_windows_24 : decode cX12_windows 24 = .ok (.iaload, 1) := by decide +kernel
theorem dX12_windows_25 : decode cX12_windows 25 = .ok (.aload_n 0, 1) := by decide +kernel
theorem dX12_windows_26 : decode cX12_windows 26 = .ok (.getfield 351, 3) := by decide +kernel
theorem dX12_windows_29 : decode cX12_windows 29 = .ok (.iload_n 2, 1) := by decide +kernel
theorem dX12_windows_30 : decode cX12_windows 30 = .ok (.iaload, 1) := by decide +kernel
theorem dX12_windows_31 : decode cX12_windows 31 = .ok (.i2l, 1) := by decide +kernel
theorem dX12_windows_32 : decode cX12_windows 32 = .ok (.aload_n 0, 1) := by decide +kernel
theorem dX12_windows_33 : decode cX12_windows 33 = .ok (.iload_n 1, 1) := by decide +kernel
theorem dX12_windows_34 : decode cX12_windows 34 = .ok (.invokevirtual 619, 3) := by decide +kernel
theorem dX12_windows_37 : decode cX12_windows 37 = .ok (.ldiv, 1) := by decide +kernel
theorem dX12_windows_38 : decode cX12_windows 38 = .ok (.lconst 0, 1) := by decide +kernel
theorem dX12_windows_39 : decode cX12_windows 39 = .ok (.invokevirtual 622, 3) := by decide +kernel
theorem dX12_windows_42 : decode cX12_windows 42 = .ok (.aload_n 0, 1) := by decide +kernel
theorem dX12_windows_43 : decode cX12_windows 43 = .ok (.iload_n 1, 1) := by decide +kernel
theorem dX12_windows_44 : decode cX12_windows 44 = .ok (.iload_n 2, 1) := by decide +kernel
theorem dX12_windows_45 : decode cX12_windows 45 = .ok (.lload_n 3, 1) := by decide +kernel
theorem dX12_windows_46 : decode cX12_windows 46 = .ok (.aload_n 0, 1) := by decide +kernel
theorem dX12_windows_47 : decode cX12_windows 47 = .ok (.getfield 532, 3) := by decide +kernel
theorem dX12_windows_50 : decode cX12_windows 50 = .ok (.iload_n 1, 1) := by decide +kernel
theorem dX12_windows_51 : decode cX12_windows 51 = .ok (.iaload, 1) := by decide +kernel
theorem dX12_windows_52 : decode cX12_windows 52 = .ok (.iconst 1, 1) := by decide +kernel
theorem dX12_windows_53 : decode cX12_windows 53 = .ok (.if_icmp .ne 7, 3) := by decide +kernel
theorem dX12_windows_56 : decode cX12_windows 56 = .ok (.iconst 1, 1) := by decide +kernel
theorem dX12_windows_57 : decode cX12_windows 57 = .ok (.goto 4, 3) := by decide +kernel
theorem dX12_windows_60 : decode cX12_windows 60 = .ok (.iconst 0, 1) := by decide +kernel
theorem dX12_windows_61 : decode cX12_windows 61 = .ok (.invokevirtual 653, 3) := by decide +kernel
theorem dX12_windows_64 : decode cX12_windows 64 = .ok (.aload_n 0, 1) := by decide +kernel
theorem dX12_windows_65 : decode cX12_windows 65 = .ok (.getfield 532, 3) := by decide +kernel
theorem dX12_windows_68 : decode cX12_windows 68 = .ok (.iload_n 1, 1) := by decide +kernel
theorem dX12_windows_69 : decode cX12_windows 69 = .ok (.iaload, 1) := by decide +kernel
theorem dX12_windows_70 : decode cX12_windows 70 = .ok (.ifCond .ne 12, 3) := by decide +kernel
theorem dX12_windows_73 : decode cX12_windows 73 = .ok (.aload_n 0, 1) := by decide +kernel
theorem dX12_windows_74 : decode cX12_windows 74 = .ok (.iload_n 1, 1) := by decide +kernel
theorem dX12_windows_75 : decode cX12_windows 75 = .ok (.iconst 1, 1) := by decide +kernel
theorem dX12_windows_76 : decode cX12_windows 76 = .ok (.lload_n 3, 1) := by decide +kernel
theorem dX12_windows_77 : decode cX12_windows 77 = .ok (.invokevirtual 626, 3) := by decide +kernel
theorem dX12_windows_80 : decode cX12_windows 80 = .ok (.iconst 1, 1) := by decide +kernel
theorem dX12_windows_81 : decode cX12_windows 81 = .ok (.ireturn, 1) := by decide +kernel
theorem dX12_windows_82 : decode cX12_windows 82 = .ok (.aload_n 0, 1) := by decide +kernel
theorem dX12_windows_83 : decode cX12_windows 83 = .ok (.aload_n 0, 1) := by decide +kernel
theorem dX12_windows_84 : decode cX12_windows 84 = .ok (.getfield 523, 3) := by decide +kernel
theorem dX12_windows_87 : decode cX12_windows 87 = .ok (.iload_n 1, 1) := by decide +kernel
theorem dX12_windows_88 : decode cX12_windows 88 = .ok (.iaload, 1) := by decide +kernel
theorem dX12_windows_89 : decode cX12_windows 89 = .ok (.invokevirtual 630, 3) := by decide +kernel
theorem dX12_windows_92 : decode cX12_windows 92 = .ok (.iconst 0, 1) := by decide +kernel
theorem dX12_windows_93 : decode cX12_windows 93 = .ok (.ireturn, 1) := by decide +kernel
theorem dX12_window_0 : decode cX12_window 0 = .ok (.aload_n 0, 1) := by decide +kernel
theorem dX12_window_1 : decode cX12_window 1 = .ok (.getfield 351, 3) := by decide +kernel
theorem dX12_window_4 : decode cX12_window 4 = .ok (.iload_n 2, 1) := by decide +kernel
theorem dX12_window_5 : decode cX12_window 5 = .ok (.iaload, 1) := by decide +kernel
theorem dX12_window_6 : decode cX12_window 6 = .ok (.i2l, 1) := by decide +kernel
theorem dX12_window_7 : decode cX12_window 7 = .ok (.lstore 6, 2) := by decide +kernel
theorem dX12_window_9 : decode cX12_window 9 = .ok (.aload_n 0, 1) := by decide +kernel
theorem dX12_window_10 : decode cX12_window 10 = .ok (.getfield 375, 3) := by decide +kernel
theorem dX12_window_13 : decode cX12_window 13 = .ok (.iload_n 2, 1) := by decide +kernel
theorem dX12_window_14 : decode cX12_window 14 = .ok (.iaload, 1) := by decide +kernel
theorem dX12_window_15 : decode cX12_window 15 = .ok (.bipush 15, 2) := by decide +kernel
theorem dX12_window_17 : decode cX12_window 17 = .ok (.if_icmp .ne 17, 3) := by decide +kernel
theorem dX12_window_20 : decode cX12_window 20 = .ok (.lload_n 3, 1) := by decide +kernel
theorem dX12_window_21 : decode cX12_window 21 = .ok (.aload_n 0, 1) := by decide +kernel
theorem dX12_window_22 : decode cX12_window 22 = .ok (.getfield 378, 3) := by decide +kernel
theorem dX12_window_25 : decode cX12_window 25 = .ok (.iload_n 2, 1) := by decide +kernel
theorem dX12_window_26 : decode cX12_window 26 = .ok (.iaload, 1) := by decide +kernel
theorem dX12_window_27 : decode cX12_window 27 = .ok (.i2l, 1) := by decide +kernel
theorem dX12_window_28 : decode cX12_window 28 = .ok (.invokestatic 633, 3) := by decide +kernel
theorem dX12_window_31 : decode cX12_window 31 = .ok (.goto 4, 3) := by decide +kernel
theorem dX12_window_34 : decode cX12_window 34 = .ok (.lconst 0, 1) := by decide +kernel
theorem dX12_window_35 : decode cX12_window 35 = .ok (.lstore 8, 2) := by decide +kernel
theorem dX12_window_37 : decode cX12_window 37 = .ok (.aload_n 0, 1) := by decide +kernel
theorem dX12_window_38 : decode cX12_window 38 = .ok (.getfield 529, 3) := by decide +kernel
theorem dX12_window_41 : decode cX12_window 41 = .ok (.iload_n 1, 1) := by decide +kernel
theorem dX12_window_42 : decode cX12_window 42 = .ok (.iaload, 1) := by decide +kernel
theorem dX12_window_43 : decode cX12_window 43 = .ok (.istore 10, 2) := by decide +kernel
theorem dX12_window_45 : decode cX12_window 45 = .ok (.aload_n 0, 1) := by decide +kernel
theorem dX12_window_46 : decode cX12_window 46 = .ok (.getfield 529, 3) := by decide +kernel
theorem dX12_window_49 : decode cX12_window 49 = .ok (.iload_n 1, 1) := by decide +kernel
theorem dX12_window_50 : decode cX12_window 50 = .ok (.iaload, 1) := by decide +kernel
theorem dX12_window_51 : decode cX12_window 51 = .ok (.istore 11, 2) := by decide +kernel
theorem dX12_window_53 : decode cX12_window 53 = .ok (.iload 11, 2) := by decide +kernel
theorem dX12_window_55 : decode cX12_window 55 = .ok (.aload_n 0, 1) := by decide +kernel
theorem dX12_window_56 : decode cX12_window 56 = .ok (.getfield 526, 3) := by decide +kernel
theorem dX12_window_59 : decode cX12_window 59 = .ok (.if_icmp .ge 158, 3) := by decide +kernel
theorem dX12_window_62 : decode cX12_window 62 = .ok (.aload_n 0, 1) := by decide +kernel
theorem dX12_window_63 : decode cX12_window 63 = .ok (.getfield 554, 3) := by decide +kernel
theorem dX12_window_66 : decode cX12_window 66 = .ok (.iload 11, 2) := by decide +kernel
theorem dX12_window_68 : decode cX12_window 68 = .ok (.laload, 1) := by decide +kernel
theorem dX12_window_69 : decode cX12_window 69 = .ok (.lload_n 3, 1) := by decide +kernel
theorem dX12_window_70 : decode cX12_window 70 = .ok (.lload 6, 2) := by decide +kernel
theorem dX12_window_72 : decode cX12_window 72 = .ok (.lmul, 1) := by decide +kernel
theorem dX12_window_73 : decode cX12_window 73 = .ok (.lsub, 1) := by decide +kernel
theorem dX12_window_74 : decode cX12_window 74 = .ok (.lstore 12, 2) := by decide +kernel
theorem dX12_window_76 : decode cX12_window 76 = .ok (.aload_n 0, 1) := by decide +kernel
theorem dX12_window_77 : decode cX12_window 77 = .ok (.getfield 375, 3) := by decide +kernel
theorem dX12_window_80 : decode cX12_window 80 = .ok (.iload_n 2, 1) := by decide +kernel
theorem dX12_window_81 : decode cX12_window 81 = .ok (.iaload, 1) := by decide +kernel
theorem dX12_window_82 : decode cX12_window 82 = .ok (.bipush 15, 2) := by decide +kernel
theorem dX12_window_84 : decode cX12_window 84 = .ok (.if_icmp .ne 51, 3) := by decide +kernel
theorem dX12_window_87 : decode cX12_window 87 = .ok (.lload 12, 2) := by decide +kernel
theorem dX12_window_89 : decode cX12_window 89 = .ok (.aload_n 0, 1) := by decide +kernel
theorem dX12_window_90 : decode cX12_window 90 = .ok (.getfield 378, 3) := by decide +kernel
theorem dX12_window_93 : decode cX12_window 93 = .ok (.iload_n 2, 1) := by decide +kernel
theorem dX12_window_94 : decode cX12_window 94 = .ok (.iaload, 1) := by decide +kernel
theorem dX12_window_95 : decode cX12_window 95 = .ok (.i2l, 1) := by decide +kernel
theorem dX12_window_96 : decode cX12_window 96 = .ok (.lmul, 1) := by decide +kernel
theorem dX12_window_97 : decode cX12_window 97 = .ok (.lload 8, 2) := by decide +kernel
theorem dX12_window_99 : decode cX12_window 99 = .ok (.lload 6, 2) := by decide +kernel
theorem dX12_window_101 : decode cX12_window 101 = .ok (.lmul, 1) := by decide +kernel
theorem dX12_window_102 : decode cX12_window 102 = .ok (.lcmp, 1) := by decide +kernel
theorem dX12_window_103 : decode cX12_window 103 = .ok (.ifCond .lt 28, 3) := by decide +kernel
theorem dX12_window_106 : decode cX12_window 106 = .ok (.lload 12, 2) := by decide +kernel
theorem dX12_window_108 : decode cX12_window 108 = .ok (.aload_n 0, 1) := by decide +kernel
theorem dX12_window_109 : decode cX12_window 109 = .ok (.getfield 378, 3) := by decide +kernel
theorem dX12_window_112 : decode cX12_window 112 = .ok (.iload_n 2, 1) := by decide +kernel
theorem dX12_window_113 : decode cX12_window 113 = .ok (.iaload, 1) := by decide +kernel
theorem dX12_window_114 : decode cX12_window 114 = .ok (.i2l, 1) := by decide +kernel
theorem dX12_window_115 : decode cX12_window 115 = .ok (.lmul, 1) := by decide +kernel
theorem dX12_window_116 : decode cX12_window 116 = .ok (.lload 8, 2) := by decide +kernel
theorem dX12_window_118 : decode cX12_window 118 = .ok (.lconst 1, 1) := by decide +kernel
theorem dX12_window_119 : decode cX12_window 119 = .ok (.ladd, 1) := by decide +kernel
theorem dX12_window_120 : decode cX12_window 120 = .ok (.lload 6, 2) := by decide +kernel
theorem dX12_window_122 : decode cX12_window 122 = .ok (.lmul, 1) := by decide +kernel
theorem dX12_window_123 : decode cX12_window 123 = .ok (.lcmp, 1) := by decide +kernel
theorem dX12_window_124 : decode cX12_window 124 = .ok (.ifCond .ge 7, 3) := by decide +kernel
theorem dX12_window_127 : decode cX12_window 127 = .ok (.iconst 1, 1) := by decide +kernel
theorem dX12_window_128 : decode cX12_window 128 = .ok (.goto 60, 3) := by decide +kernel
theorem dX12_window_131 : decode cX12_window 131 = .ok (.iconst 0, 1) := by decide +kernel
theorem dX12_window_132 : decode cX12_window 132 = .ok (.goto 56, 3) := by decide +kernel
theorem dX12_window_135 : decode cX12_window 135 = .ok (.lload 12, 2) := by decide +kernel
theorem dX12_window_137 : decode cX12_window 137 = .ok (.aload_n 0, 1) := by decide +kernel
theorem dX12_window_138 : decode cX12_window 138 = .ok (.getfield 381, 3) := by decide +kernel
theorem dX12_window_141 : decode cX12_window 141 = .ok (.iload_n 2, 1) := by decide +kernel
theorem dX12_window_142 : decode cX12_window 142 = .ok (.iaload, 1) := by decide +kernel
theorem dX12_window_143 : decode cX12_window 143 = .ok (.i2l, 1) := by decide +kernel
theorem dX12_window_144 : decode cX12_window 144 = .ok (.lmul, 1) := by decide +kernel
theorem dX12_window_145 : decode cX12_window 145 = .ok (.aload_n 0, 1) := by decide +kernel
theorem dX12_window_146 : decode cX12_window 146 = .ok (.getfield 378, 3) := by decide +kernel
theorem dX12_window_149 : decode cX12_window 149 = .ok (.iload_n 2, 1) := by decide +kernel
theorem dX12_window_150 : decode cX12_window 150 = .ok (.iaload, 1) := by decide +kernel
theorem dX12_window_151 : decode cX12_window 151 = .ok (.i2l, 1) := by decide +kernel
theorem dX12_window_152 : decode cX12_window 152 = .ok (.lload 6, 2) := by decide +kernel
theorem dX12_window_154 : decode cX12_window 154 = .ok (.lmul, 1) := by decide +kernel
theorem dX12_window_155 : decode cX12_window 155 = .ok (.lcmp, 1) := by decide +kernel
theorem dX12_window_156 : decode cX12_window 156 = .ok (.ifCond .lt 31, 3) := by decide +kernel
theorem dX12_window_159 : decode cX12_window 159 = .ok (.lload 12, 2) := by decide +kernel
theorem dX12_window_161 : decode cX12_window 161 = .ok (.aload_n 0, 1) := by decide +kernel
theorem dX12_window_162 : decode cX12_window 162 = .ok (.getfield 387, 3) := by decide +kernel
theorem dX12_window_165 : decode cX12_window 165 = .ok (.iload_n 2, 1) := by decide +kernel
theorem dX12_window_166 : decode cX12_window 166 = .ok (.iaload, 1) := by decide +kernel
theorem dX12_window_167 : decode cX12_window 167 = .ok (.i2l, 1) := by decide +kernel
theorem dX12_window_168 : decode cX12_window 168 = .ok (.lmul, 1) := by decide +kernel
theorem dX12_window_169 : decode cX12_window 169 = .ok (.aload_n 0, 1) := by decide +kernel
theorem dX12_window_170 : decode cX12_window 170 = .ok (.getfield 384, 3) := by decide +kernel
theorem dX12_window_173 : decode cX12_window 173 = .ok (.iload_n 2, 1) := by decide +kernel
theorem dX12_window_174 : decode cX12_window 174 = .ok (.iaload, 1) := by decide +kernel
theorem dX12_window_175 : decode cX12_window 175 = .ok (.i2l, 1) := by decide +kernel
theorem dX12_window_176 : decode cX12_window 176 = .ok (.lload 6, 2) := by decide +kernel
theorem dX12_window_178 : decode cX12_window 178 = .ok (.lmul, 1) := by decide +kernel
theorem dX12_window_179 : decode cX12_window 179 = .ok (.lcmp, 1) := by decide +kernel
theorem dX12_window_180 : decode cX12_window 180 = .ok (.ifCond .ge 7, 3) := by decide +kernel
theorem dX12_window_183 : decode cX12_window 183 = .ok (.iconst 1, 1) := by decide +kernel
theorem dX12_window_184 : decode cX12_window 184 = .ok (.goto 4, 3) := by decide +kernel
theorem dX12_window_187 : decode cX12_window 187 = .ok (.iconst 0, 1) := by decide +kernel
theorem dX12_window_188 : decode cX12_window 188 = .ok (.istore 14, 2) := by decide +kernel
theorem dX12_window_190 : decode cX12_window 190 = .ok (.iload 14, 2) := by decide +kernel
theorem dX12_window_192 : decode cX12_window 192 = .ok (.iload 5, 2) := by decide +kernel
theorem dX12_window_194 : decode cX12_window 194 = .ok (.if_icmp .eq 6, 3) := by decide +kernel
theorem dX12_window_197 : decode cX12_window 197 = .ok (.goto 14, 3) := by decide +kernel
theorem dX12_window_200 : decode cX12_window 200 = .ok (.aload_n 0, 1) := by decide +kernel
theorem dX12_window_201 : decode cX12_window 201 = .ok (.iload 11, 2) := by decide +kernel
theorem dX12_window_203 : decode cX12_window 203 = .ok (.iload 10, 2) := by decide +kernel
theorem dX12_window_205 : decode cX12_window 205 = .ok (.invokevirtual 584, 3) := by decide +kernel
theorem dX12_window_208 : decode cX12_window 208 = .ok (.iinc 10 1, 3) := by decide +kernel
theorem dX12_window_211 : decode cX12_window 211 = .ok (.iinc 11 1, 3) := by decide +kernel
theorem dX12_window_214 : decode cX12_window 214 = .ok (.goto (-161), 3) := by decide +kernel
theorem dX12_window_217 : decode cX12_window 217 = .ok (.aload_n 0, 1) := by decide +kernel
theorem dX12_window_218 : decode cX12_window 218 = .ok (.iload 10, 2) := by decide +kernel
theorem dX12_window_220 : decode cX12_window 220 = .ok (.putfield 526, 3) := by decide +kernel
theorem dX12_window_223 : decode cX12_window 223 = .ok (.return_, 1) := by decide +kernel
theorem dX12_single_0 : decode cX12_single 0 = .ok (.aload_n 0, 1) := by decide +kernel
theorem dX12_single_1 : decode cX12_single 1 = .ok (.getfield 520, 3) := by decide +kernel
theorem dX12_single_4 : decode cX12_single 4 = .ok (.iload_n 1, 1) := by decide +kernel
theorem dX12_single_5 : decode cX12_single 5 = .ok (.iaload, 1) := by decide +kernel
theorem dX12_single_6 : decode cX12_single 6 = .ok (.ifCond .ne 96, 3) := by decide +kernel
theorem dX12_single_9 : decode cX12_single 9 = .ok (.aload_n 0, 1) := by decide +kernel
theorem dX12_single_10 : decode cX12_single 10 = .ok (.getfield 375, 3) := by decide +kernel
theorem dX12_single_13 : decode cX12_single 13 = .ok (.iload_n 2, 1) := by decide +kernel
theorem dX12_single_14 : decode cX12_single 14 = .ok (.iaload, 1) := by decide +kernel
theorem dX12_single_15 : decode cX12_single 15 = .ok (.bipush 13, 2) := by decide +kernel
theorem dX12_single_17 : decode cX12_single 17 = .ok (.if_icmp .ne 27, 3) := by decide +kernel
theorem dX12_single_20 : decode cX12_single 20 = .ok (.lload_n 3, 1) := by decide +kernel
theorem dX12_single_21 : decode cX12_single 21 = .ok (.aload_n 0, 1) := by decide +kernel
theorem dX12_single_22 : decode cX12_single 22 = .ok (.getfield 378, 3) := by decide +kernel
theorem dX12_single_25 : decode cX12_single 25 = .ok (.iload_n 2, 1) := by decide +kernel
theorem dX12_single_26 : decode cX12_single 26 = .ok (.iaload, 1) := by decide +kernel
theorem dX12_single_27 : decode cX12_single 27 = .ok (.i2l, 1) := by decide +kernel
theorem dX12_single_28 : decode cX12_single 28 = .ok (.invokestatic 633, 3) := by decide +kernel
theorem dX12_single_31 : decode cX12_single 31 = .ok (.lconst 0, 1) := by decide +kernel
theorem dX12_single_32 : decode cX12_single 32 = .ok (.lcmp, 1) := by decide +kernel
theorem dX12_single_33 : decode cX12_single 33 = .ok (.ifCond .ne 7, 3) := by decide +kernel
theorem dX12_single_36 : decode cX12_single 36 = .ok (.iconst 1, 1) := by decide +kernel
theorem dX12_single_37 : decode cX12_single 37 = .ok (.goto 45, 3) := by decide +kernel
theorem dX12_single_40 : decode cX12_single 40 = .ok (.iconst 0, 1) := by decide +kernel
theorem dX12_single_41 : decode cX12_single 41 = .ok (.goto 41, 3) := by decide +kernel
theorem dX12_single_44 : decode cX12_single 44 = .ok (.aload_n 0, 1) := by decide +kernel
theorem dX12_single_45 : decode cX12_single 45 = .ok (.getfield 375, 3) := by decide +kernel
theorem dX12_single_48 : decode cX12_single 48 = .ok (.iload_n 2, 1) := by decide +kernel
theorem dX12_single_49 : decode cX12_single 49 = .ok (.iaload, 1) := by decide +kernel
theorem dX12_single_50 : decode cX12_single 50 = .ok (.bipush 14, 2) := by decide +kernel
theorem dX12_single_52 : decode cX12_single 52 = .ok (.if_icmp .ne 29, 3) := by decide +kernel
theorem dX12_single_55 : decode cX12_single 55 = .ok (.lload_n 3, 1) := by decide +kernel
theorem dX12_single_56 : decode cX12_single 56 = .ok (.aload_n 0, 1) := by decide +kernel
theorem dX12_single_57 : decode cX12_single 57 = .ok (.getfield 378, 3) := by decide +kernel
theorem dX12_single_60 : decode cX12_single 60 = .ok (.iload_n 2, 1) := by decide +kernel
theorem dX12_single_61 : decode cX12_single 61 = .ok (.iaload, 1) := by decide +kernel
theorem dX12_single_62 : decode cX12_single 62 = .ok (.i2l, 1) := by decide +kernel
theorem dX12_single_63 : decode cX12_single 63 = .ok (.invokestatic 633, 3) := by decide +kernel
theorem dX12_single_66 : decode cX12_single 66 = .ok (.aload_n 0, 1) := by decide +kernel
theorem dX12_single_67 : decode cX12_single 67 = .ok (.getfield 381, 3) := by decide +kernel
theorem dX12_single_70 : decode cX12_single 70 = .ok (.iload_n 2, 1) := by decide +kernel
theorem dX12_single_71 : decode cX12_single 71 = .ok (.iaload, 1) := by decide +kernel
theorem dX12_single_72 : decode cX12_single 72 = .ok (.i2l, 1) := by decide +kernel
theorem dX12_single_73 : decode cX12_single 73 = .ok (.lcmp, 1) := by decide +kernel
theorem dX12_single_74 : decode cX12_single 74 = .ok (.ifCond .lt 7, 3) := by decide +kernel
theorem dX12_single_77 : decode cX12_single 77 = .ok (.iconst 1, 1) := by decide +kernel
theorem dX12_single_78 : decode cX12_single 78 = .ok (.goto 4, 3) := by decide +kernel
theorem dX12_single_81 : decode cX12_single 81 = .ok (.iconst 0, 1) := by decide +kernel
theorem dX12_single_82 : decode cX12_single 82 = .ok (.istore 5, 2) := by decide +kernel
theorem dX12_single_84 : decode cX12_single 84 = .ok (.aload_n 0, 1) := by decide +kernel
theorem dX12_single_85 : decode cX12_single 85 = .ok (.iload_n 1, 1) := by decide +kernel
theorem dX12_single_86 : decode cX12_single 86 = .ok (.iload 5, 2) := by decide +kernel
theorem dX12_single_88 : decode cX12_single 88 = .ok (.ifCond .eq 7, 3) := by decide +kernel
theorem dX12_single_91 : decode cX12_single 91 = .ok (.iconst 1, 1) := by decide +kernel
theorem dX12_single_92 : decode cX12_single 92 = .ok (.goto 4, 3) := by decide +kernel
theorem dX12_single_95 : decode cX12_single 95 = .ok (.iconst 0, 1) := by decide +kernel
theorem dX12_single_96 : decode cX12_single 96 = .ok (.lload_n 3, 1) := by decide +kernel
theorem dX12_single_97 : decode cX12_single 97 = .ok (.invokevirtual 626, 3) := by decide +kernel
theorem dX12_single_100 : decode cX12_single 100 = .ok (.iconst 1, 1) := by decide +kernel
theorem dX12_single_101 : decode cX12_single 101 = .ok (.ireturn, 1) := by decide +kernel
theorem dX12_single_102 : decode cX12_single 102 = .ok (.aload_n 0, 1) := by decide +kernel
theorem dX12_single_103 : decode cX12_single 103 = .ok (.getfield 351, 3) := by decide +kernel
theorem dX12_single_106 : decode cX12_single 106 = .ok (.iload_n 2, 1) := by decide +kernel
theorem dX12_single_107 : decode cX12_single 107 = .ok (.iaload, 1) := by decide +kernel
theorem dX12_single_108 : decode cX12_single 108 = .ok (.i2l, 1) := by decide +kernel
theorem dX12_single_109 : decode cX12_single 109 = .ok (.lstore 5, 2) := by decide +kernel
theorem dX12_single_111 : decode cX12_single 111 = .ok (.aload_n 0, 1) := by decide +kernel
theorem dX12_single_112 : decode cX12_single 112 = .ok (.getfield 375, 3) := by decide +kernel
theorem dX12_single_115 : decode cX12_single 115 = .ok (.iload_n 2, 1) := by decide +kernel
theorem dX12_single_116 : decode cX12_single 116 = .ok (.iaload, 1) := by decide +kernel
theorem dX12_single_117 : decode cX12_single 117 = .ok (.tableswitch 281 12 22 #[59, 281, 281, 281, 281, 281, 281, 252, 179, 271, 271], 59) := by decide +kernel
theorem dX12_single_176 : decode cX12_single 176 = .ok (.aload_n 0, 1) := by decide +kernel
theorem dX12_single_177 : decode cX12_single 177 = .ok (.getfield 529, 3) := by decide +kernel
theorem dX12_single_180 : decode cX12_single 180 = .ok (.iload_n 1, 1) := by decide +kernel
theorem dX12_single_181 : decode cX12_single 181 = .ok (.iaload, 1) := by decide +kernel
theorem dX12_single_182 : decode cX12_single 182 = .ok (.istore 7, 2) := by decide +kernel
theorem dX12_single_184 : decode cX12_single 184 = .ok (.iload 7, 2) := by decide +kernel
theorem dX12_single_186 : decode cX12_single 186 = .ok (.aload_n 0, 1) := by decide +kernel
theorem dX12_single_187 : decode cX12_single 187 = .ok (.getfield 526, 3) := by decide +kernel
theorem dX12_single_190 : decode cX12_single 190 = .ok (.if_icmp .ge 93, 3) := by decide +kernel
theorem dX12_single_193 : decode cX12_single 193 = .ok (.aload_n 0, 1) := by decide +kernel
theorem dX12_single_194 : decode cX12_single 194 = .ok (.getfield 554, 3) := by decide +kernel
theorem dX12_single_197 : decode cX12_single 197 = .ok (.iload 7, 2) := by decide +kernel
theorem dX12_single_199 : decode cX12_single 199 = .ok (.laload, 1) := by decide +kernel
theorem dX12_single_200 : decode cX12_single 200 = .ok (.lstore 8, 2) := by decide +kernel
theorem dX12_single_202 : decode cX12_single 202 = .ok (.aload_n 0, 1) := by decide +kernel
theorem dX12_single_203 : decode cX12_single 203 = .ok (.getfield 557, 3) := by decide +kernel
theorem dX12_single_206 : decode cX12_single 206 = .ok (.iload 7, 2) := by decide +kernel
theorem dX12_single_208 : decode cX12_single 208 = .ok (.laload, 1) := by decide +kernel
theorem dX12_single_209 : decode cX12_single 209 = .ok (.lload_n 3, 1) := by decide +kernel
theorem dX12_single_210 : decode cX12_single 210 = .ok (.lconst 1, 1) := by decide +kernel
theorem dX12_single_211 : decode cX12_single 211 = .ok (.ladd, 1) := by decide +kernel
theorem dX12_single_212 : decode cX12_single 212 = .ok (.lload 5, 2) := by decide +kernel
theorem dX12_single_214 : decode cX12_single 214 = .ok (.lmul, 1) := by decide +kernel
theorem dX12_single_215 : decode cX12_single 215 = .ok (.lcmp, 1) := by decide +kernel
theorem dX12_single_216 : decode cX12_single 216 = .ok (.ifCond .ge 13, 3) := by decide +kernel
theorem dX12_single_219 : decode cX12_single 219 = .ok (.aload_n 0, 1) := by decide +kernel
theorem dX12_single_220 : decode cX12_single 220 = .ok (.getfield 557, 3) := by decide +kernel
theorem dX12_single_223 : decode cX12_single 223 = .ok (.iload 7, 2) := by decide +kernel
theorem dX12_single_225 : decode cX12_single 225 = .ok (.laload, 1) := by decide +kernel
theorem dX12_single_226 : decode cX12_single 226 = .ok (.goto 9, 3) := by decide +kernel
theorem dX12_single_229 : decode cX12_single 229 = .ok (.lload_n 3, 1) := by decide +kernel
theorem dX12_single_230 : decode cX12_single 230 = .ok (.lconst 1, 1) := by decide +kernel
theorem dX12_single_231 : decode cX12_single 231 = .ok (.ladd, 1) := by decide +kernel
theorem dX12_single_232 : decode cX12_single 232 = .ok (.lload 5, 2) := by decide +kernel
theorem dX12_single_234 : decode cX12_single 234 = .ok (.lmul, 1) := by decide +kernel
theorem dX12_single_235 : decode cX12_single 235 = .ok (.lstore 10, 2) := by decide +kernel
theorem dX12_single_237 : decode cX12_single 237 = .ok (.aload_n 0, 1) := by decide +kernel
theorem dX12_single_238 : decode cX12_single 238 = .ok (.getfield 554, 3) := by decide +kernel
theorem dX12_single_241 : decode cX12_single 241 = .ok (.iload 7, 2) := by decide +kernel
theorem dX12_single_243 : decode cX12_single 243 = .ok (.ldc2_w 433, 3) := by decide +kernel
theorem dX12_single_246 : decode cX12_single 246 = .ok (.lload_n 3, 1) := by decide +kernel
theorem dX12_single_247 : decode cX12_single 247 = .ok (.lmul, 1) := by decide +kernel
theorem dX12_single_248 : decode cX12_single 248 = .ok (.lconst 1, 1) := by decide +kernel
theorem dX12_single_249 : decode cX12_single 249 = .ok (.ladd, 1) := by decide +kernel
theorem dX12_single_250 : decode cX12_single 250 = .ok (.lload 5, 2) := by decide +kernel
theorem dX12_single_252 : decode cX12_single 252 = .ok (.lmul, 1) := by decide +kernel
theorem dX12_single_253 : decode cX12_single 253 = .ok (.lload 10, 2) := by decide +kernel
theorem dX12_single_255 : decode cX12_single 255 = .ok (.lsub, 1) := by decide +kernel
theorem dX12_single_256 : decode cX12_single 256 = .ok (.lastore, 1) := by decide +kernel
theorem dX12_single_257 : decode cX12_single 257 = .ok (.aload_n 0, 1) := by decide +kernel
theorem dX12_single_258 : decode cX12_single 258 = .ok (.getfield 557, 3) := by decide +kernel
theorem dX12_single_261 : decode cX12_single 261 = .ok (.iload 7, 2) := by decide +kernel
theorem dX12_single_263 : decode cX12_single 263 = .ok (.ldc2_w 433, 3) := by decide +kernel
theorem dX12_single_266 : decode cX12_single 266 = .ok (.lload_n 3, 1) := by decide +kernel
theorem dX12_single_267 : decode cX12_single 267 = .ok (.lmul, 1) := by decide +kernel
theorem dX12_single_268 : decode cX12_single 268 = .ok (.lconst 1, 1) := by decide +kernel
theorem dX12_single_269 : decode cX12_single 269 = .ok (.ladd, 1) := by decide +kernel
theorem dX12_single_270 : decode cX12_single 270 = .ok (.lload 5, 2) := by decide +kernel
theorem dX12_single_272 : decode cX12_single 272 = .ok (.lmul, 1) := by decide +kernel
theorem dX12_single_273 : decode cX12_single 273 = .ok (.lload 8, 2) := by decide +kernel
theorem dX12_single_275 : decode cX12_single 275 = .ok (.lsub, 1) := by decide +kernel
theorem dX12_single_276 : decode cX12_single 276 = .ok (.lastore, 1) := by decide +kernel
theorem dX12_single_277 : decode cX12_single 277 = .ok (.iinc 7 1, 3) := by decide +kernel
theorem dX12_single_280 : decode cX12_single 280 = .ok (.goto (-96), 3) := by decide +kernel
theorem dX12_single_283 : decode cX12_single 283 = .ok (.aload_n 0, 1) := by decide +kernel
theorem dX12_single_284 : decode cX12_single 284 = .ok (.aload_n 0, 1) := by decide +kernel
theorem dX12_single_285 : decode cX12_single 285 = .ok (.getfield 529, 3) := by decide +kernel
theorem dX12_single_288 : decode cX12_single 288 = .ok (.iload_n 1, 1) := by decide +kernel
theorem dX12_single_289 : decode cX12_single 289 = .ok (.iaload, 1) := by decide +kernel
theorem dX12_single_290 : decode cX12_single 290 = .ok (.invokevirtual 630, 3) := by decide +kernel
theorem dX12_single_293 : decode cX12_single 293 = .ok (.goto 124, 3) := by decide +kernel
theorem dX12_single_296 : decode cX12_single 296 = .ok (.aload_n 0, 1) := by decide +kernel
theorem dX12_single_297 : decode cX12_single 297 = .ok (.iload_n 2, 1) := by decide +kernel
theorem dX12_single_298 : decode cX12_single 298 = .ok (.invokevirtual 657, 3) := by decide +kernel
theorem dX12_single_301 : decode cX12_single 301 = .ok (.i2l, 1) := by decide +kernel
theorem dX12_single_302 : decode cX12_single 302 = .ok (.lload 5, 2) := by decide +kernel
theorem dX12_single_304 : decode cX12_single 304 = .ok (.aload_n 0, 1) := by decide +kernel
theorem dX12_single_305 : decode cX12_single 305 = .ok (.iload_n 2, 1) := by decide +kernel
theorem dX12_single_306 : decode cX12_single 306 = .ok (.invokevirtual 435, 3) := by decide +kernel
theorem dX12_single_309 : decode cX12_single 309 = .ok (.i2l, 1) := by decide +kernel
theorem dX12_single_310 : decode cX12_single 310 = .ok (.aload_n 0, 1) := by decide +kernel
theorem dX12_single_311 : decode cX12_single 311 = .ok (.iload_n 1, 1) := by decide +kernel
theorem dX12_single_312 : decode cX12_single 312 = .ok (.invokevirtual 619, 3) := by decide +kernel
theorem dX12_single_315 : decode cX12_single 315 = .ok (.lmul, 1) := by decide +kernel
theorem dX12_single_316 : decode cX12_single 316 = .ok (.ldiv, 1) := by decide +kernel
theorem dX12_single_317 : decode cX12_single 317 = .ok (.lmul, 1) := by decide +kernel
theorem dX12_single_318 : decode cX12_single 318 = .ok (.lstore 7, 2) := by decide +kernel
theorem dX12_single_320 : decode cX12_single 320 = .ok (.aload_n 0, 1) := by decide +kernel
theorem dX12_single_321 : decode cX12_single 321 = .ok (.aload_n 0, 1) := by decide +kernel
theorem dX12_single_322 : decode cX12_single 322 = .ok (.getfield 529, 3) := by decide +kernel
theorem dX12_single_325 : decode cX12_single 325 = .ok (.iload_n 1, 1) := by decide +kernel
theorem dX12_single_326 : decode cX12_single 326 = .ok (.iaload, 1) := by decide +kernel
theorem dX12_single_327 : decode cX12_single 327 = .ok (.lload 7, 2) := by decide +kernel
theorem dX12_single_329 : decode cX12_single 329 = .ok (.lload_n 3, 1) := by decide +kernel
theorem dX12_single_330 : decode cX12_single 330 = .ok (.lload 5, 2) := by decide +kernel
theorem dX12_single_332 : decode cX12_single 332 = .ok (.lmul, 1) := by decide +kernel
theorem dX12_single_333 : decode cX12_single 333 = .ok (.aload_n 0, 1) := by decide +kernel
theorem dX12_single_334 : decode cX12_single 334 = .ok (.getfield 378, 3) := by decide +kernel
theorem dX12_single_337 : decode cX12_single 337 = .ok (.iload_n 2, 1) := by decide +kernel
theorem dX12_single_338 : decode cX12_single 338 = .ok (.iaload, 1) := by decide +kernel
theorem dX12_single_339 : decode cX12_single 339 = .ok (.i2l, 1) := by decide +kernel
theorem dX12_single_340 : decode cX12_single 340 = .ok (.lload 5, 2) := by decide +kernel
theorem dX12_single_342 : decode cX12_single 342 = .ok (.aload_n 0, 1) := by decide +kernel
theorem dX12_single_343 : decode cX12_single 343 = .ok (.getfield 381, 3) := by decide +kernel
theorem dX12_single_346 : decode cX12_single 346 = .ok (.iload_n 2, 1) := by decide +kernel
theorem dX12_single_347 : decode cX12_single 347 = .ok (.iaload, 1) := by decide +kernel
theorem dX12_single_348 : decode cX12_single 348 = .ok (.i2l, 1) := by decide +kernel
theorem dX12_single_349 : decode cX12_single 349 = .ok (.ldiv, 1) := by decide +kernel
theorem dX12_single_350 : decode cX12_single 350 = .ok (.lmul, 1) := by decide +kernel
theorem dX12_single_351 : decode cX12_single 351 = .ok (.ladd, 1) := by decide +kernel
theorem dX12_single_352 : decode cX12_single 352 = .ok (.lload_n 3, 1) := by decide +kernel
theorem dX12_single_353 : decode cX12_single 353 = .ok (.aload_n 0, 1) := by decide +kernel
theorem dX12_single_354 : decode cX12_single 354 = .ok (.iload_n 1, 1) := by decide +kernel
theorem dX12_single_355 : decode cX12_single 355 = .ok (.invokevirtual 619, 3) := by decide +kernel
theorem dX12_single_358 : decode cX12_single 358 = .ok (.lmul, 1) := by decide +kernel
theorem dX12_single_359 : decode cX12_single 359 = .ok (.lload 7, 2) := by decide +kernel
theorem dX12_single_361 : decode cX12_single 361 = .ok (.lmul, 1) := by decide +kernel
theorem dX12_single_362 : decode cX12_single 362 = .ok (.lsub, 1) := by decide +kernel
theorem dX12_single_363 : decode cX12_single 363 = .ok (.invokevirtual 622, 3) := by decide +kernel
theorem dX12_single_366 : decode cX12_single 366 = .ok (.goto 51, 3) := by decide +kernel
theorem dX12_single_369 : decode cX12_single 369 = .ok (.aload_n 0, 1) := by decide +kernel
theorem dX12_single_370 : decode cX12_single 370 = .ok (.aload_n 0, 1) := by decide +kernel
theorem dX12_single_371 : decode cX12_single 371 = .ok (.getfield 529, 3) := by decide +kernel
theorem dX12_single_374 : decode cX12_single 374 = .ok (.iload_n 1, 1) := by decide +kernel
theorem dX12_single_375 : decode cX12_single 375 = .ok (.iaload, 1) := by decide +kernel
theorem dX12_single_376 : decode cX12_single 376 = .ok (.aload_n 0, 1) := by decide +kernel
theorem dX12_single_377 : decode cX12_single 377 = .ok (.getfield 378, 3) := by decide +kernel
theorem dX12_single_380 : decode cX12_single 380 = .ok (.iload_n 2, 1) := by decide +kernel
theorem dX12_single_381 : decode cX12_single 381 = .ok (.iaload, 1) := by decide +kernel
theorem dX12_single_382 : decode cX12_single 382 = .ok (.invokevirtual 660, 3) := by decide +kernel
theorem dX12_single_385 : decode cX12_single 385 = .ok (.goto 32, 3) := by decide +kernel
theorem dX12_single_388 : decode cX12_single 388 = .ok (.aload_n 0, 1) := by decide +kernel
theorem dX12_single_389 : decode cX12_single 389 = .ok (.iload_n 1, 1) := by decide +kernel
theorem dX12_single_390 : decode cX12_single 390 = .ok (.iload_n 2, 1) := by decide +kernel
theorem dX12_single_391 : decode cX12_single 391 = .ok (.lload_n 3, 1) := by decide +kernel
theorem dX12_single_392 : decode cX12_single 392 = .ok (.invokevirtual 663, 3) := by decide +kernel
theorem dX12_single_395 : decode cX12_single 395 = .ok (.goto 22, 3) := by decide +kernel
theorem dX12_single_398 : decode cX12_single 398 = .ok (.aload_n 0, 1) := by decide +kernel
theorem dX12_single_399 : decode cX12_single 399 = .ok (.aload_n 0, 1) := by decide +kernel
theorem dX12_single_400 : decode cX12_single 400 = .ok (.getfield 529, 3) := by decide +kernel
theorem dX12_single_403 : decode cX12_single 403 = .ok (.iload_n 1, 1) := by decide +kernel
theorem dX12_single_404 : decode cX12_single 404 = .ok (.iaload, 1) := by decide +kernel
theorem dX12_single_405 : decode cX12_single 405 = .ok (.lload 5, 2) := by decide +kernel
theorem dX12_single_407 : decode cX12_single 407 = .ok (.aload_n 0, 1) := by decide +kernel
theorem dX12_single_408 : decode cX12_single 408 = .ok (.iload_n 1, 1) := by decide +kernel
theorem dX12_single_409 : decode cX12_single 409 = .ok (.invokevirtual 619, 3) := by decide +kernel
theorem dX12_single_412 : decode cX12_single 412 = .ok (.ldiv, 1) := by decide +kernel
theorem dX12_single_413 : decode cX12_single 413 = .ok (.lconst 0, 1) := by decide +kernel
theorem dX12_single_414 : decode cX12_single 414 = .ok (.invokevirtual 622, 3) := by decide +kernel
theorem dX12_single_417 : decode cX12_single 417 = .ok (.iconst 0, 1) := by decide +kernel
theorem dX12_single_418 : decode cX12_single 418 = .ok (.ireturn, 1) := by decide +kernel
theorem dX12_rotate_0 : decode cX12_rotate 0 = .ok (.aload_n 0, 1) := by decide +kernel
theorem dX12_rotate_1 : decode cX12_rotate 1 = .ok (.getfield 526, 3) := by decide +kernel
theorem dX12_rotate_4 : decode cX12_rotate 4 = .ok (.iload_n 1, 1) := by decide +kernel
theorem dX12_rotate_5 : decode cX12_rotate 5 = .ok (.isub, 1) := by decide +kernel
theorem dX12_rotate_6 : decode cX12_rotate 6 = .ok (.istore_n 3, 1) := by decide +kernel
theorem dX12_rotate_7 : decode cX12_rotate 7 = .ok (.iconst 0, 1) := by decide +kernel
theorem dX12_rotate_8 : decode cX12_rotate 8 = .ok (.istore 4, 2) := by decide +kernel
theorem dX12_rotate_10 : decode cX12_rotate 10 = .ok (.iload 4, 2) := by decide +kernel
theorem dX12_rotate_12 : decode cX12_rotate 12 = .ok (.iload_n 3, 1) := by decide +kernel
theorem dX12_rotate_13 : decode cX12_rotate 13 = .ok (.if_icmp .ge 75, 3) := by decide +kernel
theorem dX12_rotate_16 : decode cX12_rotate 16 = .ok (.iload_n 1, 1) := by decide +kernel
theorem dX12_rotate_17 : decode cX12_rotate 17 = .ok (.iload 4, 2) := by decide +kernel
theorem dX12_rotate_19 : decode cX12_rotate 19 = .ok (.iload_n 2, 1) := by decide +kernel
theorem dX12_rotate_20 : decode cX12_rotate 20 = .ok (.iadd, 1) := by decide +kernel
theorem dX12_rotate_21 : decode cX12_rotate 21 = .ok (.iload_n 3, 1) := by decide +kernel
theorem dX12_rotate_22 : decode cX12_rotate 22 = .ok (.irem, 1) := by decide +kernel
theorem dX12_rotate_23 : decode cX12_rotate 23 = .ok (.iadd, 1) := by decide +kernel
theorem dX12_rotate_24 : decode cX12_rotate 24 = .ok (.istore 5, 2) := by decide +kernel
theorem dX12_rotate_26 : decode cX12_rotate 26 = .ok (.aload_n 0, 1) := by decide +kernel
theorem dX12_rotate_27 : decode cX12_rotate 27 = .ok (.getfield 666, 3) := by decide +kernel
theorem dX12_rotate_30 : decode cX12_rotate 30 = .ok (.iload 4, 2) := by decide +kernel
theorem dX12_rotate_32 : decode cX12_rotate 32 = .ok (.aload_n 0, 1) := by decide +kernel
theorem dX12_rotate_33 : decode cX12_rotate 33 = .ok (.getfield 560, 3) := by decide +kernel
theorem dX12_rotate_36 : decode cX12_rotate 36 = .ok (.iload 5, 2) := by decide +kernel
theorem dX12_rotate_38 : decode cX12_rotate 38 = .ok (.iaload, 1) := by decide +kernel
theorem dX12_rotate_39 : decode cX12_rotate 39 = .ok (.iastore, 1) := by decide +kernel
theorem dX12_rotate_40 : decode cX12_rotate 40 = .ok (.aload_n 0, 1) := by decide +kernel
theorem dX12_rotate_41 : decode cX12_rotate 41 = .ok (.getfield 669, 3) := by decide +kernel
theorem dX12_rotate_44 : decode cX12_rotate 44 = .ok (.iload 4, 2) := by decide +kernel
theorem dX12_rotate_46 : decode cX12_rotate 46 = .ok (.aload_n 0, 1) := by decide +kernel
theorem dX12_rotate_47 : decode cX12_rotate 47 = .ok (.getfield 563, 3) := by decide +kernel
theorem dX12_rotate_50 : decode cX12_rotate 50 = .ok (.iload 5, 2) := by decide +kernel
theorem dX12_rotate_52 : decode cX12_rotate 52 = .ok (.iaload, 1) := by decide +kernel
theorem dX12_rotate_53 : decode cX12_rotate 53 = .ok (.iastore, 1) := by decide +kernel
theorem dX12_rotate_54 : decode cX12_rotate 54 = .ok (.aload_n 0, 1) := by decide +kernel
theorem dX12_rotate_55 : decode cX12_rotate 55 = .ok (.getfield 672, 3) := by decide +kernel
theorem dX12_rotate_58 : decode cX12_rotate 58 = .ok (.iload 4, 2) := by decide +kernel
theorem dX12_rotate_60 : decode cX12_rotate 60 = .ok (.aload_n 0, 1) := by decide +kernel
theorem dX12_rotate_61 : decode cX12_rotate 61 = .ok (.getfield 566, 3) := by decide +kernel
theorem dX12_rotate_64 : decode cX12_rotate 64 = .ok (.iload 5, 2) := by decide +kernel
theorem dX12_rotate_66 : decode cX12_rotate 66 = .ok (.iaload, 1) := by decide +kernel
theorem dX12_rotate_67 : decode cX12_rotate 67 = .ok (.iastore, 1) := by decide +kernel
theorem dX12_rotate_68 : decode cX12_rotate 68 = .ok (.aload_n 0, 1) := by decide +kernel
theorem dX12_rotate_69 : decode cX12_rotate 69 = .ok (.getfield 675, 3) := by decide +kernel
theorem dX12_rotate_72 : decode cX12_rotate 72 = .ok (.iload 4, 2) := by decide +kernel
theorem dX12_rotate_74 : decode cX12_rotate 74 = .ok (.aload_n 0, 1) := by decide +kernel
theorem dX12_rotate_75 : decode cX12_rotate 75 = .ok (.getfield 569, 3) := by decide +kernel
theorem dX12_rotate_78 : decode cX12_rotate 78 = .ok (.iload 5, 2) := by decide +kernel
theorem dX12_rotate_80 : decode cX12_rotate 80 = .ok (.iaload, 1) := by decide +kernel
theorem dX12_rotate_81 : decode cX12_rotate 81 = .ok (.iastore, 1) := by decide +kernel
theorem dX12_rotate_82 : decode cX12_rotate 82 = .ok (.iinc 4 1, 3) := by decide +kernel
theorem dX12_rotate_85 : decode cX12_rotate 85 = .ok (.goto (-75), 3) := by decide +kernel
theorem dX12_rotate_88 : decode cX12_rotate 88 = .ok (.iconst 0, 1) := by decide +kernel
theorem dX12_rotate_89 : decode cX12_rotate 89 = .ok (.istore 4, 2) := by decide +kernel
theorem dX12_rotate_91 : decode cX12_rotate 91 = .ok (.iload 4, 2) := by decide +kernel
theorem dX12_rotate_93 : decode cX12_rotate 93 = .ok (.iload_n 3, 1) := by decide +kernel
theorem dX12_rotate_94 : decode cX12_rotate 94 = .ok (.if_icmp .ge 73, 3) := by decide +kernel
theorem dX12_rotate_97 : decode cX12_rotate 97 = .ok (.aload_n 0, 1) := by decide +kernel
theorem dX12_rotate_98 : decode cX12_rotate 98 = .ok (.getfield 560, 3) := by decide +kernel
theorem dX12_rotate_101 : decode cX12_rotate 101 = .ok (.iload_n 1, 1) := by decide +kernel
theorem dX12_rotate_102 : decode cX12_rotate 102 = .ok (.iload 4, 2) := by decide +kernel
theorem dX12_rotate_104 : decode cX12_rotate 104 = .ok (.iadd, 1) := by decide +kernel
theorem dX12_rotate_105 : decode cX12_rotate 105 = .ok (.aload_n 0, 1) := by decide +kernel
theorem dX12_rotate_106 : decode cX12_rotate 106 = .ok (.getfield 666, 3) := by decide +kernel
theorem dX12_rotate_109 : decode cX12_rotate 109 = .ok (.iload 4, 2) := by decide +kernel
theorem dX12_rotate_111 : decode cX12_rotate 111 = .ok (.iaload, 1) := by decide +kernel
theorem dX12_rotate_112 : decode cX12_rotate 112 = .ok (.iastore, 1) := by decide +kernel
theorem dX12_rotate_113 : decode cX12_rotate 113 = .ok (.aload_n 0, 1) := by decide +kernel
theorem dX12_rotate_114 : decode cX12_rotate 114 = .ok (.getfield 563, 3) := by decide +kernel
theorem dX12_rotate_117 : decode cX12_rotate 117 = .ok (.iload_n 1, 1) := by decide +kernel
theorem dX12_rotate_118 : decode cX12_rotate 118 = .ok (.iload 4, 2) := by decide +kernel
theorem dX12_rotate_120 : decode cX12_rotate 120 = .ok (.iadd, 1) := by decide +kernel
theorem dX12_rotate_121 : decode cX12_rotate 121 = .ok (.aload_n 0, 1) := by decide +kernel
theorem dX12_rotate_122 : decode cX12_rotate 122 = .ok (.getfield 669, 3) := by decide +kernel
theorem dX12_rotate_125 : decode cX12_rotate 125 = .ok (.iload 4, 2) := by decide +kernel
theorem dX12_rotate_127 : decode cX12_rotate 127 = .ok (.iaload, 1) := by decide +kernel
theorem dX12_rotate_128 : decode cX12_rotate 128 = .ok (.iastore, 1) := by decide +kernel
theorem dX12_rotate_129 : decode cX12_rotate 129 = .ok (.aload_n 0, 1) := by decide +kernel
theorem dX12_rotate_130 : decode cX12_rotate 130 = .ok (.getfield 566, 3) := by decide +kernel
theorem dX12_rotate_133 : decode cX12_rotate 133 = .ok (.iload_n 1, 1) := by decide +kernel
theorem dX12_rotate_134 : decode cX12_rotate 134 = .ok (.iload 4, 2) := by decide +kernel
theorem dX12_rotate_136 : decode cX12_rotate 136 = .ok (.iadd, 1) := by decide +kernel
theorem dX12_rotate_137 : decode cX12_rotate 137 = .ok (.aload_n 0, 1) := by decide +kernel
theorem dX12_rotate_138 : decode cX12_rotate 138 = .ok (.getfield 672, 3) := by decide +kernel
theorem dX12_rotate_141 : decode cX12_rotate 141 = .ok (.iload 4, 2) := by decide +kernel
theorem dX12_rotate_143 : decode cX12_rotate 143 = .ok (.iaload, 1) := by decide +kernel
theorem dX12_rotate_144 : decode cX12_rotate 144 = .ok (.iastore, 1) := by decide +kernel
theorem dX12_rotate_145 : decode cX12_rotate 145 = .ok (.aload_n 0, 1) := by decide +kernel
theorem dX12_rotate_146 : decode cX12_rotate 146 = .ok (.getfield 569, 3) := by decide +kernel
theorem dX12_rotate_149 : decode cX12_rotate 149 = .ok (.iload_n 1, 1) := by decide +kernel
theorem dX12_rotate_150 : decode cX12_rotate 150 = .ok (.iload 4, 2) := by decide +kernel
theorem dX12_rotate_152 : decode cX12_rotate 152 = .ok (.iadd, 1) := by decide +kernel
theorem dX12_rotate_153 : decode cX12_rotate 153 = .ok (.aload_n 0, 1) := by decide +kernel
theorem dX12_rotate_154 : decode cX12_rotate 154 = .ok (.getfield 675, 3) := by decide +kernel
theorem dX12_rotate_157 : decode cX12_rotate 157 = .ok (.iload 4, 2) := by decide +kernel
theorem dX12_rotate_159 : decode cX12_rotate 159 = .ok (.iaload, 1) := by decide +kernel
theorem dX12_rotate_160 : decode cX12_rotate 160 = .ok (.iastore, 1) := by decide +kernel
theorem dX12_rotate_161 : decode cX12_rotate 161 = .ok (.iinc 4 1, 3) := by decide +kernel
theorem dX12_rotate_164 : decode cX12_rotate 164 = .ok (.goto (-73), 3) := by decide +kernel
theorem dX12_rotate_167 : decode cX12_rotate 167 = .ok (.return_, 1) := by decide +kernel
theorem dX12_draw_0 : decode cX12_draw 0 = .ok (.aload_n 0, 1) := by decide +kernel
theorem dX12_draw_1 : decode cX12_draw 1 = .ok (.getfield 529, 3) := by decide +kernel
theorem dX12_draw_4 : decode cX12_draw 4 = .ok (.iload_n 1, 1) := by decide +kernel
theorem dX12_draw_5 : decode cX12_draw 5 = .ok (.iaload, 1) := by decide +kernel
theorem dX12_draw_6 : decode cX12_draw 6 = .ok (.istore 5, 2) := by decide +kernel
theorem dX12_draw_8 : decode cX12_draw 8 = .ok (.aload_n 0, 1) := by decide +kernel
theorem dX12_draw_9 : decode cX12_draw 9 = .ok (.getfield 529, 3) := by decide +kernel
theorem dX12_draw_12 : decode cX12_draw 12 = .ok (.iload_n 1, 1) := by decide +kernel
theorem dX12_draw_13 : decode cX12_draw 13 = .ok (.iaload, 1) := by decide +kernel
theorem dX12_draw_14 : decode cX12_draw 14 = .ok (.istore 6, 2) := by decide +kernel
theorem dX12_draw_16 : decode cX12_draw 16 = .ok (.iload 6, 2) := by decide +kernel
theorem dX12_draw_18 : decode cX12_draw 18 = .ok (.aload_n 0, 1) := by decide +kernel
theorem dX12_draw_19 : decode cX12_draw 19 = .ok (.getfield 526, 3) := by decide +kernel
theorem dX12_draw_22 : decode cX12_draw 22 = .ok (.if_icmp .ge 182, 3) := by decide +kernel
theorem dX12_draw_25 : decode cX12_draw 25 = .ok (.aload_n 0, 1) := by decide +kernel
theorem dX12_draw_26 : decode cX12_draw 26 = .ok (.getfield 554, 3) := by decide +kernel
theorem dX12_draw_29 : decode cX12_draw 29 = .ok (.iload 6, 2) := by decide +kernel
theorem dX12_draw_31 : decode cX12_draw 31 = .ok (.laload, 1) := by decide +kernel
theorem dX12_draw_32 : decode cX12_draw 32 = .ok (.lload_n 3, 1) := by decide +kernel
theorem dX12_draw_33 : decode cX12_draw 33 = .ok (.aload_n 0, 1) := by decide +kernel
theorem dX12_draw_34 : decode cX12_draw 34 = .ok (.getfield 351, 3) := by decide +kernel
theorem dX12_draw_37 : decode cX12_draw 37 = .ok (.iload_n 2, 1) := by decide +kernel
theorem dX12_draw_38 : decode cX12_draw 38 = .ok (.iaload, 1) := by decide +kernel
theorem dX12_draw_39 : decode cX12_draw 39 = .ok (.i2l, 1) := by decide +kernel
theorem dX12_draw_40 : decode cX12_draw 40 = .ok (.lmul, 1) := by decide +kernel
theorem dX12_draw_41 : decode cX12_draw 41 = .ok (.lsub, 1) := by decide +kernel
theorem dX12_draw_42 : decode cX12_draw 42 = .ok (.lstore 7, 2) := by decide +kernel
theorem dX12_draw_44 : decode cX12_draw 44 = .ok (.lload 7, 2) := by decide +kernel
theorem dX12_draw_46 : decode cX12_draw 46 = .ok (.aload_n 0, 1) := by decide +kernel
theorem dX12_draw_47 : decode cX12_draw 47 = .ok (.getfield 351, 3) := by decide +kernel
theorem dX12_draw_50 : decode cX12_draw 50 = .ok (.iload_n 2, 1) := by decide +kernel
theorem dX12_draw_51 : decode cX12_draw 51 = .ok (.iaload, 1) := by decide +kernel
theorem dX12_draw_52 : decode cX12_draw 52 = .ok (.i2l, 1) := by decide +kernel
theorem dX12_draw_53 : decode cX12_draw 53 = .ok (.invokestatic 314, 3) := by decide +kernel
theorem dX12_draw_56 : decode cX12_draw 56 = .ok (.lstore 9, 2) := by decide +kernel
theorem dX12_draw_58 : decode cX12_draw 58 = .ok (.aload_n 0, 1) := by decide +kernel
theorem dX12_draw_59 : decode cX12_draw 59 = .ok (.getfield 678, 3) := by decide +kernel
theorem dX12_draw_62 : decode cX12_draw 62 = .ok (.sipush 9973, 3) := by decide +kernel
theorem dX12_draw_65 : decode cX12_draw 65 = .ok (.lload_n 3, 1) := by decide +kernel
theorem dX12_draw_66 : decode cX12_draw 66 = .ok (.l2i, 1) := by decide +kernel
theorem dX12_draw_67 : decode cX12_draw 67 = .ok (.imul, 1) := by decide +kernel
theorem dX12_draw_68 : decode cX12_draw 68 = .ok (.iadd, 1) := by decide +kernel
theorem dX12_draw_69 : decode cX12_draw 69 = .ok (.sipush 7919, 3) := by decide +kernel
theorem dX12_draw_72 : decode cX12_draw 72 = .ok (.lload 7, 2) := by decide +kernel
theorem dX12_draw_74 : decode cX12_draw 74 = .ok (.lload 9, 2) := by decide +kernel
theorem dX12_draw_76 : decode cX12_draw 76 = .ok (.ldiv, 1) := by decide +kernel
theorem dX12_draw_77 : decode cX12_draw 77 = .ok (.l2i, 1) := by decide +kernel
theorem dX12_draw_78 : decode cX12_draw 78 = .ok (.imul, 1) := by decide +kernel
theorem dX12_draw_79 : decode cX12_draw 79 = .ok (.iadd, 1) := by decide +kernel
theorem dX12_draw_80 : decode cX12_draw 80 = .ok (.ldc_w 681, 3) := by decide +kernel
theorem dX12_draw_83 : decode cX12_draw 83 = .ok (.aload_n 0, 1) := by decide +kernel
theorem dX12_draw_84 : decode cX12_draw 84 = .ok (.getfield 351, 3) := by decide +kernel
theorem dX12_draw_87 : decode cX12_draw 87 = .ok (.iload_n 2, 1) := by decide +kernel
theorem dX12_draw_88 : decode cX12_draw 88 = .ok (.iaload, 1) := by decide +kernel
theorem dX12_draw_89 : decode cX12_draw 89 = .ok (.i2l, 1) := by decide +kernel
theorem dX12_draw_90 : decode cX12_draw 90 = .ok (.lload 9, 2) := by decide +kernel
theorem dX12_draw_92 : decode cX12_draw 92 = .ok (.ldiv, 1) := by decide +kernel
theorem dX12_draw_93 : decode cX12_draw 93 = .ok (.l2i, 1) := by decide +kernel
theorem dX12_draw_94 : decode cX12_draw 94 = .ok (.imul, 1) := by decide +kernel
theorem dX12_draw_95 : decode cX12_draw 95 = .ok (.iadd, 1) := by decide +kernel
theorem dX12_draw_96 : decode cX12_draw 96 = .ok (.ldc_w 682, 3) := by decide +kernel
theorem dX12_draw_99 : decode cX12_draw 99 = .ok (.aload_n 0, 1) := by decide +kernel
theorem dX12_draw_100 : decode cX12_draw 100 = .ok (.getfield 381, 3) := by decide +kernel
theorem dX12_draw_103 : decode cX12_draw 103 = .ok (.iload_n 2, 1) := by decide +kernel
theorem dX12_draw_104 : decode cX12_draw 104 = .ok (.iaload, 1) := by decide +kernel
theorem dX12_draw_105 : decode cX12_draw 105 = .ok (.imul, 1) := by decide +kernel
theorem dX12_draw_106 : decode cX12_draw 106 = .ok (.iadd, 1) := by decide +kernel
theorem dX12_draw_107 : decode cX12_draw 107 = .ok (.istore 11, 2) := by decide +kernel
theorem dX12_draw_109 : decode cX12_draw 109 = .ok (.iload 11, 2) := by decide +kernel
theorem dX12_draw_111 : decode cX12_draw 111 = .ok (.iload 11, 2) := by decide +kernel
theorem dX12_draw_113 : decode cX12_draw 113 = .ok (.bipush 15, 2) := by decide +kernel
theorem dX12_draw_115 : decode cX12_draw 115 = .ok (.iushr, 1) := by decide +kernel
theorem dX12_draw_116 : decode cX12_draw 116 = .ok (.ixor, 1) := by decide +kernel
theorem dX12_draw_117 : decode cX12_draw 117 = .ok (.istore 11, 2) := by decide +kernel
theorem dX12_draw_119 : decode cX12_draw 119 = .ok (.iload 11, 2) := by decide +kernel
theorem dX12_draw_121 : decode cX12_draw 121 = .ok (.ldc_w 683, 3) := by decide +kernel
theorem dX12_draw_124 : decode cX12_draw 124 = .ok (.imul, 1) := by decide +kernel
theorem dX12_draw_125 : decode cX12_draw 125 = .ok (.istore 11, 2) := by decide +kernel
theorem dX12_draw_127 : decode cX12_draw 127 = .ok (.iload 11, 2) := by decide +kernel
theorem dX12_draw_129 : decode cX12_draw 129 = .ok (.iload 11, 2) := by decide +kernel
theorem dX12_draw_131 : decode cX12_draw 131 = .ok (.bipush 13, 2) := by decide +kernel
theorem dX12_draw_133 : decode cX12_draw 133 = .ok (.iushr, 1) := by decide +kernel
theorem dX12_draw_134 : decode cX12_draw 134 = .ok (.ixor, 1) := by decide +kernel
theorem dX12_draw_135 : decode cX12_draw 135 = .ok (.istore 11, 2) := by decide +kernel
theorem dX12_draw_137 : decode cX12_draw 137 = .ok (.iload 11, 2) := by decide +kernel
theorem dX12_draw_139 : decode cX12_draw 139 = .ok (.ldc_w 684, 3) := by decide +kernel
theorem dX12_draw_142 : decode cX12_draw 142 = .ok (.iand, 1) := by decide +kernel
theorem dX12_draw_143 : decode cX12_draw 143 = .ok (.sipush 1000, 3) := by decide +kernel
theorem dX12_draw_146 : decode cX12_draw 146 = .ok (.irem, 1) := by decide +kernel
theorem dX12_draw_147 : decode cX12_draw 147 = .ok (.aload_n 0, 1) := by decide +kernel
theorem dX12_draw_148 : decode cX12_draw 148 = .ok (.getfield 378, 3) := by decide +kernel
theorem dX12_draw_151 : decode cX12_draw 151 = .ok (.iload_n 2, 1) := by decide +kernel
theorem dX12_draw_152 : decode cX12_draw 152 = .ok (.iaload, 1) := by decide +kernel
theorem dX12_draw_153 : decode cX12_draw 153 = .ok (.if_icmp .ge 7, 3) := by decide +kernel
theorem dX12_draw_156 : decode cX12_draw 156 = .ok (.iconst 1, 1) := by decide +kernel
theorem dX12_draw_157 : decode cX12_draw 157 = .ok (.goto 4, 3) := by decide +kernel
theorem dX12_draw_160 : decode cX12_draw 160 = .ok (.iconst 0, 1) := by decide +kernel
theorem dX12_draw_161 : decode cX12_draw 161 = .ok (.istore 12, 2) := by decide +kernel
theorem dX12_draw_163 : decode cX12_draw 163 = .ok (.iload 12, 2) := by decide +kernel
theorem dX12_draw_165 : decode cX12_draw 165 = .ok (.aload_n 0, 1) := by decide +kernel
theorem dX12_draw_166 : decode cX12_draw 166 = .ok (.getfield 375, 3) := by decide +kernel
theorem dX12_draw_169 : decode cX12_draw 169 = .ok (.iload_n 2, 1) := by decide +kernel
theorem dX12_draw_170 : decode cX12_draw 170 = .ok (.iaload, 1) := by decide +kernel
theorem dX12_draw_171 : decode cX12_draw 171 = .ok (.bipush 22, 2) := by decide +kernel
theorem dX12_draw_173 : decode cX12_draw 173 = .ok (.if_icmp .ne 7, 3) := by decide +kernel
theorem dX12_draw_176 : decode cX12_draw 176 = .ok (.iconst 1, 1) := by decide +kernel
theorem dX12_draw_177 : decode cX12_draw 177 = .ok (.goto 4, 3) := by decide +kernel
theorem dX12_draw_180 : decode cX12_draw 180 = .ok (.iconst 0, 1) := by decide +kernel
theorem dX12_draw_181 : decode cX12_draw 181 = .ok (.if_icmp .eq 6, 3) := by decide +kernel
theorem dX12_draw_184 : decode cX12_draw 184 = .ok (.goto 14, 3) := by decide +kernel
theorem dX12_draw_187 : decode cX12_draw 187 = .ok (.aload_n 0, 1) := by decide +kernel
theorem dX12_draw_188 : decode cX12_draw 188 = .ok (.iload 6, 2) := by decide +kernel
theorem dX12_draw_190 : decode cX12_draw 190 = .ok (.iload 5, 2) := by decide +kernel
theorem dX12_draw_192 : decode cX12_draw 192 = .ok (.invokevirtual 584, 3) := by decide +kernel
theorem dX12_draw_195 : decode cX12_draw 195 = .ok (.iinc 5 1, 3) := by decide +kernel
theorem dX12_draw_198 : decode cX12_draw 198 = .ok (.iinc 6 1, 3) := by decide +kernel
theorem dX12_draw_201 : decode cX12_draw 201 = .ok (.goto (-185), 3) := by decide +kernel
theorem dX12_draw_204 : decode cX12_draw 204 = .ok (.aload_n 0, 1) := by decide +kernel
theorem dX12_draw_205 : decode cX12_draw 205 = .ok (.iload 5, 2) := by decide +kernel
theorem dX12_draw_207 : decode cX12_draw 207 = .ok (.putfield 526, 3) := by decide +kernel
theorem dX12_draw_210 : decode cX12_draw 210 = .ok (.return_, 1) := by decide +kernel
theorem dX12_isLoud_0 : decode cX12_isLoud 0 = .ok (.iload_n 0, 1) := by decide +kernel
theorem dX12_isLoud_1 : decode cX12_isLoud 1 = .ok (.iconst 1, 1) := by decide +kernel
theorem dX12_isLoud_2 : decode cX12_isLoud 2 = .ok (.iand, 1) := by decide +kernel
theorem dX12_isLoud_3 : decode cX12_isLoud 3 = .ok (.iconst 1, 1) := by decide +kernel
theorem dX12_isLoud_4 : decode cX12_isLoud 4 = .ok (.if_icmp .eq 12, 3) := by decide +kernel
theorem dX12_isLoud_7 : decode cX12_isLoud 7 = .ok (.iload_n 0, 1) := by decide +kernel
theorem dX12_isLoud_8 : decode cX12_isLoud 8 = .ok (.iconst 2, 1) := by decide +kernel
theorem dX12_isLoud_9 : decode cX12_isLoud 9 = .ok (.if_icmp .ne 11, 3) := by decide +kernel
theorem dX12_isLoud_12 : decode cX12_isLoud 12 = .ok (.iload_n 1, 1) := by decide +kernel
theorem dX12_isLoud_13 : decode cX12_isLoud 13 = .ok (.ifCond .eq 7, 3) := by decide +kernel
theorem dX12_isLoud_16 : decode cX12_isLoud 16 = .ok (.iconst 1, 1) := by decide +kernel
theorem dX12_isLoud_17 : decode cX12_isLoud 17 = .ok (.goto 4, 3) := by decide +kernel
theorem dX12_isLoud_20 : decode cX12_isLoud 20 = .ok (.iconst 0, 1) := by decide +kernel
theorem dX12_isLoud_21 : decode cX12_isLoud 21 = .ok (.ireturn, 1) := by decide +kernel
theorem dX12_sounds_0 : decode cX12_sounds 0 = .ok (.aload_n 0, 1) := by decide +kernel
theorem dX12_sounds_1 : decode cX12_sounds 1 = .ok (.getfield 375, 3) := by decide +kernel
theorem dX12_sounds_4 : decode cX12_sounds 4 = .ok (.iload_n 2, 1) := by decide +kernel
theorem dX12_sounds_5 : decode cX12_sounds 5 = .ok (.iaload, 1) := by decide +kernel
theorem dX12_sounds_6 : decode cX12_sounds 6 = .ok (.bipush 24, 2) := by decide +kernel
theorem dX12_sounds_8 : decode cX12_sounds 8 = .ok (.if_icmp .ne 7, 3) := by decide +kernel
theorem dX12_sounds_11 : decode cX12_sounds 11 = .ok (.iconst 1, 1) := by decide +kernel
theorem dX12_sounds_12 : decode cX12_sounds 12 = .ok (.goto 4, 3) := by decide +kernel
theorem dX12_sounds_15 : decode cX12_sounds 15 = .ok (.iconst 0, 1) := by decide +kernel
theorem dX12_sounds_16 : decode cX12_sounds 16 = .ok (.istore 5, 2) := by decide +kernel
theorem dX12_sounds_18 : decode cX12_sounds 18 = .ok (.aload_n 0, 1) := by decide +kernel
theorem dX12_sounds_19 : decode cX12_sounds 19 = .ok (.getfield 520, 3) := by decide +kernel
theorem dX12_sounds_22 : decode cX12_sounds 22 = .ok (.iload_n 1, 1) := by decide +kernel
theorem dX12_sounds_23 : decode cX12_sounds 23 = .ok (.iaload, 1) := by decide +kernel
theorem dX12_sounds_24 : decode cX12_sounds 24 = .ok (.ifCond .ne 13, 3) := by decide +kernel
theorem dX12_sounds_27 : decode cX12_sounds 27 = .ok (.aload_n 0, 1) := by decide +kernel
theorem dX12_sounds_28 : decode cX12_sounds 28 = .ok (.iload_n 1, 1) := by decide +kernel
theorem dX12_sounds_29 : decode cX12_sounds 29 = .ok (.iload 5, 2) := by decide +kernel
theorem dX12_sounds_31 : decode cX12_sounds 31 = .ok (.lload_n 3, 1) := by decide +kernel
theorem dX12_sounds_32 : decode cX12_sounds 32 = .ok (.invokevirtual 626, 3) := by decide +kernel
theorem dX12_sounds_35 : decode cX12_sounds 35 = .ok (.iconst 1, 1) := by decide +kernel
theorem dX12_sounds_36 : decode cX12_sounds 36 = .ok (.ireturn, 1) := by decide +kernel
theorem dX12_sounds_37 : decode cX12_sounds 37 = .ok (.aload_n 0, 1) := by decide +kernel
theorem dX12_sounds_38 : decode cX12_sounds 38 = .ok (.getfield 532, 3) := by decide +kernel
theorem dX12_sounds_41 : decode cX12_sounds 41 = .ok (.iload_n 1, 1) := by decide +kernel
theorem dX12_sounds_42 : decode cX12_sounds 42 = .ok (.iaload, 1) := by decide +kernel
theorem dX12_sounds_43 : decode cX12_sounds 43 = .ok (.iload 5, 2) := by decide +kernel
theorem dX12_sounds_45 : decode cX12_sounds 45 = .ok (.if_icmp .ne 76, 3) := by decide +kernel
theorem dX12_sounds_48 : decode cX12_sounds 48 = .ok (.aload_n 0, 1) := by decide +kernel
theorem dX12_sounds_49 : decode cX12_sounds 49 = .ok (.getfield 535, 3) := by decide +kernel
theorem dX12_sounds_52 : decode cX12_sounds 52 = .ok (.iload_n 1, 1) := by decide +kernel
theorem dX12_sounds_53 : decode cX12_sounds 53 = .ok (.iaload, 1) := by decide +kernel
theorem dX12_sounds_54 : decode cX12_sounds 54 = .ok (.ifCond .ne 67, 3) := by decide +kernel
theorem dX12_sounds_57 : decode cX12_sounds 57 = .ok (.aload_n 0, 1) := by decide +kernel
theorem dX12_sounds_58 : decode cX12_sounds 58 = .ok (.iload_n 1, 1) := by decide +kernel
theorem dX12_sounds_59 : decode cX12_sounds 59 = .ok (.iload_n 2, 1) := by decide +kernel
theorem dX12_sounds_60 : decode cX12_sounds 60 = .ok (.invokevirtual 685, 3) := by decide +kernel
theorem dX12_sounds_63 : decode cX12_sounds 63 = .ok (.aload_n 0, 1) := by decide +kernel
theorem dX12_sounds_64 : decode cX12_sounds 64 = .ok (.getfield 541, 3) := by decide +kernel
theorem dX12_sounds_67 : decode cX12_sounds 67 = .ok (.iload_n 1, 1) := by decide +kernel
theorem dX12_sounds_68 : decode cX12_sounds 68 = .ok (.lload_n 3, 1) := by decide +kernel
theorem dX12_sounds_69 : decode cX12_sounds 69 = .ok (.lastore, 1) := by decide +kernel
theorem dX12_sounds_70 : decode cX12_sounds 70 = .ok (.aload_n 0, 1) := by decide +kernel
theorem dX12_sounds_71 : decode cX12_sounds 71 = .ok (.getfield 544, 3) := by decide +kernel
theorem dX12_sounds_74 : decode cX12_sounds 74 = .ok (.iload_n 1, 1) := by decide +kernel
theorem dX12_sounds_75 : decode cX12_sounds 75 = .ok (.lload_n 3, 1) := by decide +kernel
theorem dX12_sounds_76 : decode cX12_sounds 76 = .ok (.aload_n 0, 1) := by decide +kernel
theorem dX12_sounds_77 : decode cX12_sounds 77 = .ok (.getfield 360, 3) := by decide +kernel
theorem dX12_sounds_80 : decode cX12_sounds 80 = .ok (.aload_n 0, 1) := by decide +kernel
theorem dX12_sounds_81 : decode cX12_sounds 81 = .ok (.getfield 345, 3) := by decide +kernel
theorem dX12_sounds_84 : decode cX12_sounds 84 = .ok (.aload_n 0, 1) := by decide +kernel
theorem dX12_sounds_85 : decode cX12_sounds 85 = .ok (.getfield 339, 3) := by decide +kernel
theorem dX12_sounds_88 : decode cX12_sounds 88 = .ok (.iload_n 2, 1) := by decide +kernel
theorem dX12_sounds_89 : decode cX12_sounds 89 = .ok (.iaload, 1) := by decide +kernel
theorem dX12_sounds_90 : decode cX12_sounds 90 = .ok (.iconst 1, 1) := by decide +kernel
theorem dX12_sounds_91 : decode cX12_sounds 91 = .ok (.iadd, 1) := by decide +kernel
theorem dX12_sounds_92 : decode cX12_sounds 92 = .ok (.iload 5, 2) := by decide +kernel
theorem dX12_sounds_94 : decode cX12_sounds 94 = .ok (.isub, 1) := by decide +kernel
theorem dX12_sounds_95 : decode cX12_sounds 95 = .ok (.iaload, 1) := by decide +kernel
theorem dX12_sounds_96 : decode cX12_sounds 96 = .ok (.iaload, 1) := by decide +kernel
theorem dX12_sounds_97 : decode cX12_sounds 97 = .ok (.i2l, 1) := by decide +kernel
theorem dX12_sounds_98 : decode cX12_sounds 98 = .ok (.lsub, 1) := by decide +kernel
theorem dX12_sounds_99 : decode cX12_sounds 99 = .ok (.lastore, 1) := by decide +kernel
theorem dX12_sounds_100 : decode cX12_sounds 100 = .ok (.aload_n 0, 1) := by decide +kernel
theorem dX12_sounds_101 : decode cX12_sounds 101 = .ok (.getfield 535, 3) := by decide +kernel
theorem dX12_sounds_104 : decode cX12_sounds 104 = .ok (.iload_n 1, 1) := by decide +kernel
theorem dX12_sounds_105 : decode cX12_sounds 105 = .ok (.iconst 1, 1) := by decide +kernel
theorem dX12_sounds_106 : decode cX12_sounds 106 = .ok (.iastore, 1) := by decide +kernel
theorem dX12_sounds_107 : decode cX12_sounds 107 = .ok (.aload_n 0, 1) := by decide +kernel
theorem dX12_sounds_108 : decode cX12_sounds 108 = .ok (.getfield 538, 3) := by decide +kernel
theorem dX12_sounds_111 : decode cX12_sounds 111 = .ok (.iload_n 1, 1) := by decide +kernel
theorem dX12_sounds_112 : decode cX12_sounds 112 = .ok (.aload_n 0, 1) := by decide +kernel
theorem dX12_sounds_113 : decode cX12_sounds 113 = .ok (.getfield 526, 3) := by decide +kernel
theorem dX12_sounds_116 : decode cX12_sounds 116 = .ok (.i2l, 1) := by decide +kernel
theorem dX12_sounds_117 : decode cX12_sounds 117 = .ok (.lastore, 1) := by decide +kernel
theorem dX12_sounds_118 : decode cX12_sounds 118 = .ok (.goto 30, 3) := by decide +kernel
theorem dX12_sounds_121 : decode cX12_sounds 121 = .ok (.aload_n 0, 1) := by decide +kernel
theorem dX12_sounds_122 : decode cX12_sounds 122 = .ok (.iload_n 1, 1) := by decide +kernel
theorem dX12_sounds_123 : decode cX12_sounds 123 = .ok (.iload_n 2, 1) := by decide +kernel
theorem dX12_sounds_124 : decode cX12_sounds 124 = .ok (.invokevirtual 688, 3) := by decide +kernel
theorem dX12_sounds_127 : decode cX12_sounds 127 = .ok (.aload_n 0, 1) := by decide +kernel
theorem dX12_sounds_128 : decode cX12_sounds 128 = .ok (.aload_n 0, 1) := by decide +kernel
theorem dX12_sounds_129 : decode cX12_sounds 129 = .ok (.getfield 538, 3) := by decide +kernel
theorem dX12_sounds_132 : decode cX12_sounds 132 = .ok (.iload_n 1, 1) := by decide +kernel
theorem dX12_sounds_133 : decode cX12_sounds 133 = .ok (.laload, 1) := by decide +kernel
theorem dX12_sounds_134 : decode cX12_sounds 134 = .ok (.l2i, 1) := by decide +kernel
theorem dX12_sounds_135 : decode cX12_sounds 135 = .ok (.putfield 526, 3) := by decide +kernel
theorem dX12_sounds_138 : decode cX12_sounds 138 = .ok (.aload_n 0, 1) := by decide +kernel
theorem dX12_sounds_139 : decode cX12_sounds 139 = .ok (.getfield 541, 3) := by decide +kernel
theorem dX12_sounds_142 : decode cX12_sounds 142 = .ok (.iload_n 1, 1) := by decide +kernel
theorem dX12_sounds_143 : decode cX12_sounds 143 = .ok (.dup2, 1) := by decide +kernel
theorem dX12_sounds_144 : decode cX12_sounds 144 = .ok (.laload, 1) := by decide +kernel
theorem dX12_sounds_145 : decode cX12_sounds 145 = .ok (.lconst 1, 1) := by decide +kernel
theorem dX12_sounds_146 : decode cX12_sounds 146 = .ok (.lsub, 1) := by decide +kernel
theorem dX12_sounds_147 : decode cX12_sounds 147 = .ok (.lastore, 1) := by decide +kernel
theorem dX12_sounds_148 : decode cX12_sounds 148 = .ok (.iconst 0, 1) := by decide +kernel
theorem dX12_sounds_149 : decode cX12_sounds 149 = .ok (.istore 6, 2) := by decide +kernel
theorem dX12_sounds_151 : decode cX12_sounds 151 = .ok (.aload_n 0, 1) := by decide +kernel
theorem dX12_sounds_152 : decode cX12_sounds 152 = .ok (.getfield 523, 3) := by decide +kernel
theorem dX12_sounds_155 : decode cX12_sounds 155 = .ok (.iload_n 1, 1) := by decide +kernel
theorem dX12_sounds_156 : decode cX12_sounds 156 = .ok (.iaload, 1) := by decide +kernel
theorem dX12_sounds_157 : decode cX12_sounds 157 = .ok (.istore 7, 2) := by decide +kernel
theorem dX12_sounds_159 : decode cX12_sounds 159 = .ok (.iload 7, 2) := by decide +kernel
theorem dX12_sounds_161 : decode cX12_sounds 161 = .ok (.aload_n 0, 1) := by decide +kernel
theorem dX12_sounds_162 : decode cX12_sounds 162 = .ok (.getfield 526, 3) := by decide +kernel
theorem dX12_sounds_165 : decode cX12_sounds 165 = .ok (.if_icmp .ge 31, 3) := by decide +kernel
theorem dX12_sounds_168 : decode cX12_sounds 168 = .ok (.iload 6, 2) := by decide +kernel
theorem dX12_sounds_170 : decode cX12_sounds 170 = .ok (.ifCond .ne 26, 3) := by decide +kernel
theorem dX12_sounds_173 : decode cX12_sounds 173 = .ok (.aload_n 0, 1) := by decide +kernel
theorem dX12_sounds_174 : decode cX12_sounds 174 = .ok (.getfield 572, 3) := by decide +kernel
theorem dX12_sounds_177 : decode cX12_sounds 177 = .ok (.iload 7, 2) := by decide +kernel
theorem dX12_sounds_179 : decode cX12_sounds 179 = .ok (.iaload, 1) := by decide +kernel
theorem dX12_sounds_180 : decode cX12_sounds 180 = .ok (.ifCond .ge 7, 3) := by decide +kernel
theorem dX12_sounds_183 : decode cX12_sounds 183 = .ok (.iconst 1, 1) := by decide +kernel
theorem dX12_sounds_184 : decode cX12_sounds 184 = .ok (.goto 4, 3) := by decide +kernel
theorem dX12_sounds_187 : decode cX12_sounds 187 = .ok (.iconst 0, 1) := by decide +kernel
theorem dX12_sounds_188 : decode cX12_sounds 188 = .ok (.istore 6, 2) := by decide +kernel
theorem dX12_sounds_190 : decode cX12_sounds 190 = .ok (.iinc 7 1, 3) := by decide +kernel
theorem dX12_sounds_193 : decode cX12_sounds 193 = .ok (.goto (-34), 3) := by decide +kernel
theorem dX12_sounds_196 : decode cX12_sounds 196 = .ok (.iload 6, 2) := by decide +kernel
theorem dX12_sounds_198 : decode cX12_sounds 198 = .ok (.ifCond .eq 36, 3) := by decide +kernel
theorem dX12_sounds_201 : decode cX12_sounds 201 = .ok (.aload_n 0, 1) := by decide +kernel
theorem dX12_sounds_202 : decode cX12_sounds 202 = .ok (.getfield 541, 3) := by decide +kernel
theorem dX12_sounds_205 : decode cX12_sounds 205 = .ok (.iload_n 1, 1) := by decide +kernel
theorem dX12_sounds_206 : decode cX12_sounds 206 = .ok (.laload, 1) := by decide +kernel
theorem dX12_sounds_207 : decode cX12_sounds 207 = .ok (.aload_n 0, 1) := by decide +kernel
theorem dX12_sounds_208 : decode cX12_sounds 208 = .ok (.getfield 544, 3) := by decide +kernel
theorem dX12_sounds_211 : decode cX12_sounds 211 = .ok (.iload_n 1, 1) := by decide +kernel
theorem dX12_sounds_212 : decode cX12_sounds 212 = .ok (.laload, 1) := by decide +kernel
theorem dX12_sounds_213 : decode cX12_sounds 213 = .ok (.lcmp, 1) := by decide +kernel
theorem dX12_sounds_214 : decode cX12_sounds 214 = .ok (.ifCond .lt 20, 3) := by decide +kernel
theorem dX12_sounds_217 : decode cX12_sounds 217 = .ok (.aload_n 0, 1) := by decide +kernel
theorem dX12_sounds_218 : decode cX12_sounds 218 = .ok (.iload_n 1, 1) := by decide +kernel
theorem dX12_sounds_219 : decode cX12_sounds 219 = .ok (.iconst 1, 1) := by decide +kernel
theorem dX12_sounds_220 : decode cX12_sounds 220 = .ok (.iload 5, 2) := by decide +kernel
theorem dX12_sounds_222 : decode cX12_sounds 222 = .ok (.isub, 1) := by decide +kernel
theorem dX12_sounds_223 : decode cX12_sounds 223 = .ok (.aload_n 0, 1) := by decide +kernel
theorem dX12_sounds_224 : decode cX12_sounds 224 = .ok (.getfield 541, 3) := by decide +kernel
theorem dX12_sounds_227 : decode cX12_sounds 227 = .ok (.iload_n 1, 1) := by decide +kernel
theorem dX12_sounds_228 : decode cX12_sounds 228 = .ok (.laload, 1) := by decide +kernel
theorem dX12_sounds_229 : decode cX12_sounds 229 = .ok (.invokevirtual 626, 3) := by decide +kernel
theorem dX12_sounds_232 : decode cX12_sounds 232 = .ok (.iconst 1, 1) := by decide +kernel
theorem dX12_sounds_233 : decode cX12_sounds 233 = .ok (.ireturn, 1) := by decide +kernel
theorem dX12_sounds_234 : decode cX12_sounds 234 = .ok (.aload_n 0, 1) := by decide +kernel
theorem dX12_sounds_235 : decode cX12_sounds 235 = .ok (.iload_n 1, 1) := by decide +kernel
theorem dX12_sounds_236 : decode cX12_sounds 236 = .ok (.iload_n 2, 1) := by decide +kernel
theorem dX12_sounds_237 : decode cX12_sounds 237 = .ok (.invokevirtual 691, 3) := by decide +kernel
theorem dX12_sounds_240 : decode cX12_sounds 240 = .ok (.iconst 0, 1) := by decide +kernel
theorem dX12_sounds_241 : decode cX12_sounds 241 = .ok (.ireturn, 1) := by decide +kernel
theorem dX12_beginSounds_0 : decode cX12_beginSounds 0 = .ok (.aload_n 0, 1) := by decide +kernel
theorem dX12_beginSounds_1 : decode cX12_beginSounds 1 = .ok (.getfield 523, 3) := by decide +kernel
theorem dX12_beginSounds_4 : decode cX12_beginSounds 4 = .ok (.iload_n 1, 1) := by decide +kernel
theorem dX12_beginSounds_5 : decode cX12_beginSounds 5 = .ok (.iaload, 1) := by decide +kernel
theorem dX12_beginSounds_6 : decode cX12_beginSounds 6 = .ok (.istore_n 3, 1) := by decide +kernel
theorem dX12_beginSounds_7 : decode cX12_beginSounds 7 = .ok (.aload_n 0, 1) := by decide +kernel
theorem dX12_beginSounds_8 : decode cX12_beginSounds 8 = .ok (.getfield 523, 3) := by decide +kernel
theorem dX12_beginSounds_11 : decode cX12_beginSounds 11 = .ok (.iload_n 1, 1) := by decide +kernel
theorem dX12_beginSounds_12 : decode cX12_beginSounds 12 = .ok (.iaload, 1) := by decide +kernel
theorem dX12_beginSounds_13 : decode cX12_beginSounds 13 = .ok (.istore 4, 2) := by decide +kernel
theorem dX12_beginSounds_15 : decode cX12_beginSounds 15 = .ok (.iload 4, 2) := by decide +kernel
theorem dX12_beginSounds_17 : decode cX12_beginSounds 17 = .ok (.aload_n 0, 1) := by decide +kernel
theorem dX12_beginSounds_18 : decode cX12_beginSounds 18 = .ok (.getfield 526, 3) := by decide +kernel
theorem dX12_beginSounds_21 : decode cX12_beginSounds 21 = .ok (.if_icmp .ge 60, 3) := by decide +kernel
