theorem dX12_row_74 : decode cX12_row 74 = .ok (.iload_n 3, 1) := by decide +kernel
theorem dX12_row_75 : decode cX12_row 75 = .ok (.isub, 1) := by decide +kernel
theorem dX12_row_76 : decode cX12_row 76 = .ok (.putfield 297, 3) := by decide +kernel
theorem dX12_row_79 : decode cX12_row 79 = .ok (.aload_n 0, 1) := by decide +kernel
theorem dX12_row_80 : decode cX12_row 80 = .ok (.iload_n 2, 1) := by decide +kernel
theorem dX12_row_81 : decode cX12_row 81 = .ok (.iconst 1, 1) := by decide +kernel
theorem dX12_row_82 : decode cX12_row 82 = .ok (.if_icmp .eq 9, 3) := by decide +kernel
theorem dX12_row_85 : decode cX12_row 85 = .ok (.iload_n 2, 1) := by decide +kernel
theorem dX12_row_86 : decode cX12_row 86 = .ok (.bipush 25, 2) := by decide +kernel
theorem dX12_row_88 : decode cX12_row 88 = .ok (.if_icmp .ne 7, 3) := by decide +kernel
theorem dX12_row_91 : decode cX12_row 91 = .ok (.iconst 5, 1) := by decide +kernel
theorem dX12_row_92 : decode cX12_row 92 = .ok (.goto 26, 3) := by decide +kernel
theorem dX12_row_95 : decode cX12_row 95 = .ok (.iload_n 2, 1) := by decide +kernel
theorem dX12_row_96 : decode cX12_row 96 = .ok (.bipush 23, 2) := by decide +kernel
theorem dX12_row_98 : decode cX12_row 98 = .ok (.if_icmp .ne 7, 3) := by decide +kernel
theorem dX12_row_101 : decode cX12_row 101 = .ok (.iconst 4, 1) := by decide +kernel
theorem dX12_row_102 : decode cX12_row 102 = .ok (.goto 16, 3) := by decide +kernel
theorem dX12_row_105 : decode cX12_row 105 = .ok (.iload_n 2, 1) := by decide +kernel
theorem dX12_row_106 : decode cX12_row 106 = .ok (.bipush 27, 2) := by decide +kernel
theorem dX12_row_108 : decode cX12_row 108 = .ok (.if_icmp .ne 8, 3) := by decide +kernel
theorem dX12_row_111 : decode cX12_row 111 = .ok (.bipush 7, 2) := by decide +kernel
theorem dX12_row_113 : decode cX12_row 113 = .ok (.goto 5, 3) := by decide +kernel
theorem dX12_row_116 : decode cX12_row 116 = .ok (.bipush 6, 2) := by decide +kernel
theorem dX12_row_118 : decode cX12_row 118 = .ok (.aload_n 0, 1) := by decide +kernel
theorem dX12_row_119 : decode cX12_row 119 = .ok (.getfield 14, 3) := by decide +kernel
theorem dX12_row_122 : decode cX12_row 122 = .ok (.iload_n 1, 1) := by decide +kernel
theorem dX12_row_123 : decode cX12_row 123 = .ok (.iaload, 1) := by decide +kernel
theorem dX12_row_124 : decode cX12_row 124 = .ok (.iconst 0, 1) := by decide +kernel
theorem dX12_row_125 : decode cX12_row 125 = .ok (.iconst 0, 1) := by decide +kernel
theorem dX12_row_126 : decode cX12_row 126 = .ok (.iconst 0, 1) := by decide +kernel
theorem dX12_row_127 : decode cX12_row 127 = .ok (.invokevirtual 444, 3) := by decide +kernel
theorem dX12_row_130 : decode cX12_row 130 = .ok (.aload_n 0, 1) := by decide +kernel
theorem dX12_row_131 : decode cX12_row 131 = .ok (.getfield 297, 3) := by decide +kernel
theorem dX12_row_134 : decode cX12_row 134 = .ok (.istore 4, 2) := by decide +kernel
theorem dX12_row_136 : decode cX12_row 136 = .ok (.aload_n 0, 1) := by decide +kernel
theorem dX12_row_137 : decode cX12_row 137 = .ok (.getfield 29, 3) := by decide +kernel
theorem dX12_row_140 : decode cX12_row 140 = .ok (.iload_n 1, 1) := by decide +kernel
theorem dX12_row_141 : decode cX12_row 141 = .ok (.iaload, 1) := by decide +kernel
theorem dX12_row_142 : decode cX12_row 142 = .ok (.istore 5, 2) := by decide +kernel
theorem dX12_row_144 : decode cX12_row 144 = .ok (.iload 5, 2) := by decide +kernel
theorem dX12_row_146 : decode cX12_row 146 = .ok (.iconst (-1), 1) := by decide +kernel
theorem dX12_row_147 : decode cX12_row 147 = .ok (.if_icmp .eq 80, 3) := by decide +kernel
theorem dX12_row_150 : decode cX12_row 150 = .ok (.aload_n 0, 1) := by decide +kernel
theorem dX12_row_151 : decode cX12_row 151 = .ok (.getfield 7, 3) := by decide +kernel
theorem dX12_row_154 : decode cX12_row 154 = .ok (.iload 5, 2) := by decide +kernel
theorem dX12_row_156 : decode cX12_row 156 = .ok (.iaload, 1) := by decide +kernel
theorem dX12_row_157 : decode cX12_row 157 = .ok (.bipush 24, 2) := by decide +kernel
theorem dX12_row_159 : decode cX12_row 159 = .ok (.if_icmp .ne 7, 3) := by decide +kernel
theorem dX12_row_162 : decode cX12_row 162 = .ok (.iconst 1, 1) := by decide +kernel
theorem dX12_row_163 : decode cX12_row 163 = .ok (.goto 4, 3) := by decide +kernel
theorem dX12_row_166 : decode cX12_row 166 = .ok (.iconst 0, 1) := by decide +kernel
theorem dX12_row_167 : decode cX12_row 167 = .ok (.istore 6, 2) := by decide +kernel
theorem dX12_row_169 : decode cX12_row 169 = .ok (.aload_n 0, 1) := by decide +kernel
theorem dX12_row_170 : decode cX12_row 170 = .ok (.aload_n 0, 1) := by decide +kernel
theorem dX12_row_171 : decode cX12_row 171 = .ok (.getfield 294, 3) := by decide +kernel
theorem dX12_row_174 : decode cX12_row 174 = .ok (.iload 4, 2) := by decide +kernel
theorem dX12_row_176 : decode cX12_row 176 = .ok (.iaload, 1) := by decide +kernel
theorem dX12_row_177 : decode cX12_row 177 = .ok (.iload 6, 2) := by decide +kernel
theorem dX12_row_179 : decode cX12_row 179 = .ok (.ifCond .eq 13, 3) := by decide +kernel
theorem dX12_row_182 : decode cX12_row 182 = .ok (.aload_n 0, 1) := by decide +kernel
theorem dX12_row_183 : decode cX12_row 183 = .ok (.getfield 14, 3) := by decide +kernel
theorem dX12_row_186 : decode cX12_row 186 = .ok (.iload 5, 2) := by decide +kernel
theorem dX12_row_188 : decode cX12_row 188 = .ok (.iaload, 1) := by decide +kernel
theorem dX12_row_189 : decode cX12_row 189 = .ok (.goto 4, 3) := by decide +kernel
theorem dX12_row_192 : decode cX12_row 192 = .ok (.iconst 1, 1) := by decide +kernel
theorem dX12_row_193 : decode cX12_row 193 = .ok (.iload 6, 2) := by decide +kernel
theorem dX12_row_195 : decode cX12_row 195 = .ok (.ifCond .eq 13, 3) := by decide +kernel
theorem dX12_row_198 : decode cX12_row 198 = .ok (.aload_n 0, 1) := by decide +kernel
theorem dX12_row_199 : decode cX12_row 199 = .ok (.getfield 17, 3) := by decide +kernel
theorem dX12_row_202 : decode cX12_row 202 = .ok (.iload 5, 2) := by decide +kernel
theorem dX12_row_204 : decode cX12_row 204 = .ok (.iaload, 1) := by decide +kernel
theorem dX12_row_205 : decode cX12_row 205 = .ok (.goto 4, 3) := by decide +kernel
theorem dX12_row_208 : decode cX12_row 208 = .ok (.iconst 1, 1) := by decide +kernel
theorem dX12_row_209 : decode cX12_row 209 = .ok (.invokevirtual 448, 3) := by decide +kernel
theorem dX12_row_212 : decode cX12_row 212 = .ok (.iinc 4 1, 3) := by decide +kernel
theorem dX12_row_215 : decode cX12_row 215 = .ok (.aload_n 0, 1) := by decide +kernel
theorem dX12_row_216 : decode cX12_row 216 = .ok (.getfield 35, 3) := by decide +kernel
theorem dX12_row_219 : decode cX12_row 219 = .ok (.iload 5, 2) := by decide +kernel
theorem dX12_row_221 : decode cX12_row 221 = .ok (.iaload, 1) := by decide +kernel
theorem dX12_row_222 : decode cX12_row 222 = .ok (.istore 5, 2) := by decide +kernel
theorem dX12_row_224 : decode cX12_row 224 = .ok (.goto (-80), 3) := by decide +kernel
theorem dX12_row_227 : decode cX12_row 227 = .ok (.aload_n 0, 1) := by decide +kernel
theorem dX12_row_228 : decode cX12_row 228 = .ok (.aload_n 0, 1) := by decide +kernel
theorem dX12_row_229 : decode cX12_row 229 = .ok (.getfield 11, 3) := by decide +kernel
theorem dX12_row_232 : decode cX12_row 232 = .ok (.iload_n 1, 1) := by decide +kernel
theorem dX12_row_233 : decode cX12_row 233 = .ok (.iaload, 1) := by decide +kernel
theorem dX12_row_234 : decode cX12_row 234 = .ok (.invokevirtual 451, 3) := by decide +kernel
theorem dX12_row_237 : decode cX12_row 237 = .ok (.return_, 1) := by decide +kernel
theorem dX12_changeOf_0 : decode cX12_changeOf 0 = .ok (.aload_n 0, 1) := by decide +kernel
theorem dX12_changeOf_1 : decode cX12_changeOf 1 = .ok (.getfield 7, 3) := by decide +kernel
theorem dX12_changeOf_4 : decode cX12_changeOf 4 = .ok (.iload_n 1, 1) := by decide +kernel
theorem dX12_changeOf_5 : decode cX12_changeOf 5 = .ok (.iaload, 1) := by decide +kernel
theorem dX12_changeOf_6 : decode cX12_changeOf 6 = .ok (.tableswitch 108 28 30 #[26, 50, 74], 26) := by decide +kernel
theorem dX12_changeOf_32 : decode cX12_changeOf 32 = .ok (.aload_n 0, 1) := by decide +kernel
theorem dX12_changeOf_33 : decode cX12_changeOf 33 = .ok (.bipush 9, 2) := by decide +kernel
theorem dX12_changeOf_35 : decode cX12_changeOf 35 = .ok (.aload_n 0, 1) := by decide +kernel
theorem dX12_changeOf_36 : decode cX12_changeOf 36 = .ok (.getfield 14, 3) := by decide +kernel
theorem dX12_changeOf_39 : decode cX12_changeOf 39 = .ok (.iload_n 1, 1) := by decide +kernel
theorem dX12_changeOf_40 : decode cX12_changeOf 40 = .ok (.iaload, 1) := by decide +kernel
theorem dX12_changeOf_41 : decode cX12_changeOf 41 = .ok (.iconst 1, 1) := by decide +kernel
theorem dX12_changeOf_42 : decode cX12_changeOf 42 = .ok (.iconst 0, 1) := by decide +kernel
theorem dX12_changeOf_43 : decode cX12_changeOf 43 = .ok (.iconst 0, 1) := by decide +kernel
theorem dX12_changeOf_44 : decode cX12_changeOf 44 = .ok (.aload_n 0, 1) := by decide +kernel
theorem dX12_changeOf_45 : decode cX12_changeOf 45 = .ok (.getfield 11, 3) := by decide +kernel
theorem dX12_changeOf_48 : decode cX12_changeOf 48 = .ok (.iload_n 1, 1) := by decide +kernel
theorem dX12_changeOf_49 : decode cX12_changeOf 49 = .ok (.iaload, 1) := by decide +kernel
theorem dX12_changeOf_50 : decode cX12_changeOf 50 = .ok (.invokevirtual 490, 3) := by decide +kernel
theorem dX12_changeOf_53 : decode cX12_changeOf 53 = .ok (.goto 84, 3) := by decide +kernel
theorem dX12_changeOf_56 : decode cX12_changeOf 56 = .ok (.aload_n 0, 1) := by decide +kernel
theorem dX12_changeOf_57 : decode cX12_changeOf 57 = .ok (.bipush 9, 2) := by decide +kernel
theorem dX12_changeOf_59 : decode cX12_changeOf 59 = .ok (.iconst 1, 1) := by decide +kernel
theorem dX12_changeOf_60 : decode cX12_changeOf 60 = .ok (.aload_n 0, 1) := by decide +kernel
theorem dX12_changeOf_61 : decode cX12_changeOf 61 = .ok (.getfield 14, 3) := by decide +kernel
theorem dX12_changeOf_64 : decode cX12_changeOf 64 = .ok (.iload_n 1, 1) := by decide +kernel
theorem dX12_changeOf_65 : decode cX12_changeOf 65 = .ok (.iaload, 1) := by decide +kernel
theorem dX12_changeOf_66 : decode cX12_changeOf 66 = .ok (.iconst 0, 1) := by decide +kernel
theorem dX12_changeOf_67 : decode cX12_changeOf 67 = .ok (.iconst 0, 1) := by decide +kernel
theorem dX12_changeOf_68 : decode cX12_changeOf 68 = .ok (.aload_n 0, 1) := by decide +kernel
theorem dX12_changeOf_69 : decode cX12_changeOf 69 = .ok (.getfield 11, 3) := by decide +kernel
theorem dX12_changeOf_72 : decode cX12_changeOf 72 = .ok (.iload_n 1, 1) := by decide +kernel
theorem dX12_changeOf_73 : decode cX12_changeOf 73 = .ok (.iaload, 1) := by decide +kernel
theorem dX12_changeOf_74 : decode cX12_changeOf 74 = .ok (.invokevirtual 490, 3) := by decide +kernel
theorem dX12_changeOf_77 : decode cX12_changeOf 77 = .ok (.goto 60, 3) := by decide +kernel
theorem dX12_changeOf_80 : decode cX12_changeOf 80 = .ok (.aload_n 0, 1) := by decide +kernel
theorem dX12_changeOf_81 : decode cX12_changeOf 81 = .ok (.bipush 8, 2) := by decide +kernel
theorem dX12_changeOf_83 : decode cX12_changeOf 83 = .ok (.aload_n 0, 1) := by decide +kernel
theorem dX12_changeOf_84 : decode cX12_changeOf 84 = .ok (.getfield 14, 3) := by decide +kernel
theorem dX12_changeOf_87 : decode cX12_changeOf 87 = .ok (.iload_n 1, 1) := by decide +kernel
theorem dX12_changeOf_88 : decode cX12_changeOf 88 = .ok (.iaload, 1) := by decide +kernel
theorem dX12_changeOf_89 : decode cX12_changeOf 89 = .ok (.aload_n 0, 1) := by decide +kernel
theorem dX12_changeOf_90 : decode cX12_changeOf 90 = .ok (.getfield 17, 3) := by decide +kernel
theorem dX12_changeOf_93 : decode cX12_changeOf 93 = .ok (.iload_n 1, 1) := by decide +kernel
theorem dX12_changeOf_94 : decode cX12_changeOf 94 = .ok (.iaload, 1) := by decide +kernel
theorem dX12_changeOf_95 : decode cX12_changeOf 95 = .ok (.aload_n 0, 1) := by decide +kernel
theorem dX12_changeOf_96 : decode cX12_changeOf 96 = .ok (.getfield 20, 3) := by decide +kernel
theorem dX12_changeOf_99 : decode cX12_changeOf 99 = .ok (.iload_n 1, 1) := by decide +kernel
theorem dX12_changeOf_100 : decode cX12_changeOf 100 = .ok (.iaload, 1) := by decide +kernel
theorem dX12_changeOf_101 : decode cX12_changeOf 101 = .ok (.iconst 0, 1) := by decide +kernel
theorem dX12_changeOf_102 : decode cX12_changeOf 102 = .ok (.aload_n 0, 1) := by decide +kernel
theorem dX12_changeOf_103 : decode cX12_changeOf 103 = .ok (.getfield 11, 3) := by decide +kernel
theorem dX12_changeOf_106 : decode cX12_changeOf 106 = .ok (.iload_n 1, 1) := by decide +kernel
theorem dX12_changeOf_107 : decode cX12_changeOf 107 = .ok (.iaload, 1) := by decide +kernel
theorem dX12_changeOf_108 : decode cX12_changeOf 108 = .ok (.invokevirtual 490, 3) := by decide +kernel
theorem dX12_changeOf_111 : decode cX12_changeOf 111 = .ok (.goto 26, 3) := by decide +kernel
theorem dX12_changeOf_114 : decode cX12_changeOf 114 = .ok (.aload_n 0, 1) := by decide +kernel
theorem dX12_changeOf_115 : decode cX12_changeOf 115 = .ok (.bipush 21, 2) := by decide +kernel
theorem dX12_changeOf_117 : decode cX12_changeOf 117 = .ok (.sipush 500, 3) := by decide +kernel
theorem dX12_changeOf_120 : decode cX12_changeOf 120 = .ok (.aload_n 0, 1) := by decide +kernel
theorem dX12_changeOf_121 : decode cX12_changeOf 121 = .ok (.getfield 14, 3) := by decide +kernel
theorem dX12_changeOf_124 : decode cX12_changeOf 124 = .ok (.iload_n 1, 1) := by decide +kernel
theorem dX12_changeOf_125 : decode cX12_changeOf 125 = .ok (.iaload, 1) := by decide +kernel
theorem dX12_changeOf_126 : decode cX12_changeOf 126 = .ok (.iconst 0, 1) := by decide +kernel
theorem dX12_changeOf_127 : decode cX12_changeOf 127 = .ok (.iconst 0, 1) := by decide +kernel
theorem dX12_changeOf_128 : decode cX12_changeOf 128 = .ok (.aload_n 0, 1) := by decide +kernel
theorem dX12_changeOf_129 : decode cX12_changeOf 129 = .ok (.getfield 11, 3) := by decide +kernel
theorem dX12_changeOf_132 : decode cX12_changeOf 132 = .ok (.iload_n 1, 1) := by decide +kernel
theorem dX12_changeOf_133 : decode cX12_changeOf 133 = .ok (.iaload, 1) := by decide +kernel
theorem dX12_changeOf_134 : decode cX12_changeOf 134 = .ok (.invokevirtual 490, 3) := by decide +kernel
theorem dX12_changeOf_137 : decode cX12_changeOf 137 = .ok (.return_, 1) := by decide +kernel
theorem dX12_arguments_0 : decode cX12_arguments 0 = .ok (.aload_n 0, 1) := by decide +kernel
theorem dX12_arguments_1 : decode cX12_arguments 1 = .ok (.getfield 7, 3) := by decide +kernel
theorem dX12_arguments_4 : decode cX12_arguments 4 = .ok (.iload_n 1, 1) := by decide +kernel
theorem dX12_arguments_5 : decode cX12_arguments 5 = .ok (.iaload, 1) := by decide +kernel
theorem dX12_arguments_6 : decode cX12_arguments 6 = .ok (.bipush 9, 2) := by decide +kernel
theorem dX12_arguments_8 : decode cX12_arguments 8 = .ok (.if_icmp .eq 15, 3) := by decide +kernel
theorem dX12_arguments_11 : decode cX12_arguments 11 = .ok (.aload_n 0, 1) := by decide +kernel
theorem dX12_arguments_12 : decode cX12_arguments 12 = .ok (.bipush 9, 2) := by decide +kernel
theorem dX12_arguments_14 : decode cX12_arguments 14 = .ok (.aload_n 0, 1) := by decide +kernel
theorem dX12_arguments_15 : decode cX12_arguments 15 = .ok (.getfield 29, 3) := by decide +kernel
theorem dX12_arguments_18 : decode cX12_arguments 18 = .ok (.iload_n 1, 1) := by decide +kernel
theorem dX12_arguments_19 : decode cX12_arguments 19 = .ok (.iaload, 1) := by decide +kernel
theorem dX12_arguments_20 : decode cX12_arguments 20 = .ok (.invokevirtual 454, 3) := by decide +kernel
theorem dX12_arguments_23 : decode cX12_arguments 23 = .ok (.return_, 1) := by decide +kernel
theorem dX12_apply_0 : decode cX12_apply 0 = .ok (.aload_n 0, 1) := by decide +kernel
theorem dX12_apply_1 : decode cX12_apply 1 = .ok (.getfield 7, 3) := by decide +kernel
theorem dX12_apply_4 : decode cX12_apply 4 = .ok (.iload_n 1, 1) := by decide +kernel
theorem dX12_apply_5 : decode cX12_apply 5 = .ok (.iaload, 1) := by decide +kernel
theorem dX12_apply_6 : decode cX12_apply 6 = .ok (.tableswitch 170 9 12 #[30, 120, 49, 81], 30) := by decide +kernel
theorem dX12_apply_36 : decode cX12_apply 36 = .ok (.aload_n 0, 1) := by decide +kernel
theorem dX12_apply_37 : decode cX12_apply 37 = .ok (.bipush 12, 2) := by decide +kernel
theorem dX12_apply_39 : decode cX12_apply 39 = .ok (.iconst 0, 1) := by decide +kernel
theorem dX12_apply_40 : decode cX12_apply 40 = .ok (.iconst 0, 1) := by decide +kernel
theorem dX12_apply_41 : decode cX12_apply 41 = .ok (.iconst 0, 1) := by decide +kernel
theorem dX12_apply_42 : decode cX12_apply 42 = .ok (.iconst 0, 1) := by decide +kernel
theorem dX12_apply_43 : decode cX12_apply 43 = .ok (.aload_n 0, 1) := by decide +kernel
theorem dX12_apply_44 : decode cX12_apply 44 = .ok (.getfield 11, 3) := by decide +kernel
theorem dX12_apply_47 : decode cX12_apply 47 = .ok (.iload_n 1, 1) := by decide +kernel
theorem dX12_apply_48 : decode cX12_apply 48 = .ok (.iaload, 1) := by decide +kernel
theorem dX12_apply_49 : decode cX12_apply 49 = .ok (.invokevirtual 490, 3) := by decide +kernel
theorem dX12_apply_52 : decode cX12_apply 52 = .ok (.goto 176, 3) := by decide +kernel
theorem dX12_apply_55 : decode cX12_apply 55 = .ok (.aload_n 0, 1) := by decide +kernel
theorem dX12_apply_56 : decode cX12_apply 56 = .ok (.getfield 29, 3) := by decide +kernel
theorem dX12_apply_59 : decode cX12_apply 59 = .ok (.iload_n 1, 1) := by decide +kernel
theorem dX12_apply_60 : decode cX12_apply 60 = .ok (.iaload, 1) := by decide +kernel
theorem dX12_apply_61 : decode cX12_apply 61 = .ok (.istore_n 2, 1) := by decide +kernel
theorem dX12_apply_62 : decode cX12_apply 62 = .ok (.iload_n 2, 1) := by decide +kernel
theorem dX12_apply_63 : decode cX12_apply 63 = .ok (.iconst (-1), 1) := by decide +kernel
theorem dX12_apply_64 : decode cX12_apply 64 = .ok (.if_icmp .eq 20, 3) := by decide +kernel
theorem dX12_apply_67 : decode cX12_apply 67 = .ok (.aload_n 0, 1) := by decide +kernel
theorem dX12_apply_68 : decode cX12_apply 68 = .ok (.bipush 11, 2) := by decide +kernel
theorem dX12_apply_70 : decode cX12_apply 70 = .ok (.iload_n 2, 1) := by decide +kernel
theorem dX12_apply_71 : decode cX12_apply 71 = .ok (.invokevirtual 454, 3) := by decide +kernel
theorem dX12_apply_74 : decode cX12_apply 74 = .ok (.aload_n 0, 1) := by decide +kernel
theorem dX12_apply_75 : decode cX12_apply 75 = .ok (.getfield 35, 3) := by decide +kernel
theorem dX12_apply_78 : decode cX12_apply 78 = .ok (.iload_n 2, 1) := by decide +kernel
theorem dX12_apply_79 : decode cX12_apply 79 = .ok (.iaload, 1) := by decide +kernel
theorem dX12_apply_80 : decode cX12_apply 80 = .ok (.istore_n 2, 1) := by decide +kernel
theorem dX12_apply_81 : decode cX12_apply 81 = .ok (.goto (-19), 3) := by decide +kernel
theorem dX12_apply_84 : decode cX12_apply 84 = .ok (.goto 144, 3) := by decide +kernel
theorem dX12_apply_87 : decode cX12_apply 87 = .ok (.aload_n 0, 1) := by decide +kernel
theorem dX12_apply_88 : decode cX12_apply 88 = .ok (.aload_n 0, 1) := by decide +kernel
theorem dX12_apply_89 : decode cX12_apply 89 = .ok (.getfield 38, 3) := by decide +kernel
theorem dX12_apply_92 : decode cX12_apply 92 = .ok (.aload_n 0, 1) := by decide +kernel
theorem dX12_apply_93 : decode cX12_apply 93 = .ok (.getfield 29, 3) := by decide +kernel
theorem dX12_apply_96 : decode cX12_apply 96 = .ok (.iload_n 1, 1) := by decide +kernel
theorem dX12_apply_97 : decode cX12_apply 97 = .ok (.iaload, 1) := by decide +kernel
theorem dX12_apply_98 : decode cX12_apply 98 = .ok (.iaload, 1) := by decide +kernel
theorem dX12_apply_99 : decode cX12_apply 99 = .ok (.invokevirtual 416, 3) := by decide +kernel
theorem dX12_apply_102 : decode cX12_apply 102 = .ok (.aload_n 0, 1) := by decide +kernel
theorem dX12_apply_103 : decode cX12_apply 103 = .ok (.bipush 25, 2) := by decide +kernel
theorem dX12_apply_105 : decode cX12_apply 105 = .ok (.aload_n 0, 1) := by decide +kernel
theorem dX12_apply_106 : decode cX12_apply 106 = .ok (.getfield 14, 3) := by decide +kernel
theorem dX12_apply_109 : decode cX12_apply 109 = .ok (.iload_n 1, 1) := by decide +kernel
theorem dX12_apply_110 : decode cX12_apply 110 = .ok (.iaload, 1) := by decide +kernel
theorem dX12_apply_111 : decode cX12_apply 111 = .ok (.iconst 0, 1) := by decide +kernel
theorem dX12_apply_112 : decode cX12_apply 112 = .ok (.iconst 0, 1) := by decide +kernel
theorem dX12_apply_113 : decode cX12_apply 113 = .ok (.iconst 0, 1) := by decide +kernel
theorem dX12_apply_114 : decode cX12_apply 114 = .ok (.aload_n 0, 1) := by decide +kernel
theorem dX12_apply_115 : decode cX12_apply 115 = .ok (.getfield 11, 3) := by decide +kernel
theorem dX12_apply_118 : decode cX12_apply 118 = .ok (.iload_n 1, 1) := by decide +kernel
theorem dX12_apply_119 : decode cX12_apply 119 = .ok (.iaload, 1) := by decide +kernel
theorem dX12_apply_120 : decode cX12_apply 120 = .ok (.invokevirtual 465, 3) := by decide +kernel
theorem dX12_apply_123 : decode cX12_apply 123 = .ok (.goto 105, 3) := by decide +kernel
theorem dX12_apply_126 : decode cX12_apply 126 = .ok (.aload_n 0, 1) := by decide +kernel
theorem dX12_apply_127 : decode cX12_apply 127 = .ok (.invokevirtual 441, 3) := by decide +kernel
theorem dX12_apply_130 : decode cX12_apply 130 = .ok (.istore_n 2, 1) := by decide +kernel
theorem dX12_apply_131 : decode cX12_apply 131 = .ok (.aload_n 0, 1) := by decide +kernel
theorem dX12_apply_132 : decode cX12_apply 132 = .ok (.getfield 29, 3) := by decide +kernel
theorem dX12_apply_135 : decode cX12_apply 135 = .ok (.iload_n 1, 1) := by decide +kernel
theorem dX12_apply_136 : decode cX12_apply 136 = .ok (.iaload, 1) := by decide +kernel
theorem dX12_apply_137 : decode cX12_apply 137 = .ok (.istore_n 3, 1) := by decide +kernel
theorem dX12_apply_138 : decode cX12_apply 138 = .ok (.iload_n 3, 1) := by decide +kernel
theorem dX12_apply_139 : decode cX12_apply 139 = .ok (.iconst (-1), 1) := by decide +kernel
theorem dX12_apply_140 : decode cX12_apply 140 = .ok (.if_icmp .eq 23, 3) := by decide +kernel
theorem dX12_apply_143 : decode cX12_apply 143 = .ok (.aload_n 0, 1) := by decide +kernel
theorem dX12_apply_144 : decode cX12_apply 144 = .ok (.aload_n 0, 1) := by decide +kernel
theorem dX12_apply_145 : decode cX12_apply 145 = .ok (.getfield 38, 3) := by decide +kernel
theorem dX12_apply_148 : decode cX12_apply 148 = .ok (.iload_n 3, 1) := by decide +kernel
theorem dX12_apply_149 : decode cX12_apply 149 = .ok (.iaload, 1) := by decide +kernel
theorem dX12_apply_150 : decode cX12_apply 150 = .ok (.invokevirtual 416, 3) := by decide +kernel
theorem dX12_apply_153 : decode cX12_apply 153 = .ok (.aload_n 0, 1) := by decide +kernel
theorem dX12_apply_154 : decode cX12_apply 154 = .ok (.getfield 35, 3) := by decide +kernel
theorem dX12_apply_157 : decode cX12_apply 157 = .ok (.iload_n 3, 1) := by decide +kernel
theorem dX12_apply_158 : decode cX12_apply 158 = .ok (.iaload, 1) := by decide +kernel
theorem dX12_apply_159 : decode cX12_apply 159 = .ok (.istore_n 3, 1) := by decide +kernel
theorem dX12_apply_160 : decode cX12_apply 160 = .ok (.goto (-22), 3) := by decide +kernel
theorem dX12_apply_163 : decode cX12_apply 163 = .ok (.aload_n 0, 1) := by decide +kernel
theorem dX12_apply_164 : decode cX12_apply 164 = .ok (.iload_n 2, 1) := by decide +kernel
theorem dX12_apply_165 : decode cX12_apply 165 = .ok (.invokevirtual 416, 3) := by decide +kernel
theorem dX12_apply_168 : decode cX12_apply 168 = .ok (.aload_n 0, 1) := by decide +kernel
theorem dX12_apply_169 : decode cX12_apply 169 = .ok (.iload_n 1, 1) := by decide +kernel
theorem dX12_apply_170 : decode cX12_apply 170 = .ok (.invokevirtual 493, 3) := by decide +kernel
theorem dX12_apply_173 : decode cX12_apply 173 = .ok (.goto 55, 3) := by decide +kernel
theorem dX12_apply_176 : decode cX12_apply 176 = .ok (.aload_n 0, 1) := by decide +kernel
theorem dX12_apply_177 : decode cX12_apply 177 = .ok (.getfield 14, 3) := by decide +kernel
theorem dX12_apply_180 : decode cX12_apply 180 = .ok (.iload_n 1, 1) := by decide +kernel
theorem dX12_apply_181 : decode cX12_apply 181 = .ok (.iaload, 1) := by decide +kernel
theorem dX12_apply_182 : decode cX12_apply 182 = .ok (.bipush 14, 2) := by decide +kernel
theorem dX12_apply_184 : decode cX12_apply 184 = .ok (.if_icmp .eq 14, 3) := by decide +kernel
theorem dX12_apply_187 : decode cX12_apply 187 = .ok (.aload_n 0, 1) := by decide +kernel
theorem dX12_apply_188 : decode cX12_apply 188 = .ok (.getfield 14, 3) := by decide +kernel
theorem dX12_apply_191 : decode cX12_apply 191 = .ok (.iload_n 1, 1) := by decide +kernel
theorem dX12_apply_192 : decode cX12_apply 192 = .ok (.iaload, 1) := by decide +kernel
theorem dX12_apply_193 : decode cX12_apply 193 = .ok (.bipush 15, 2) := by decide +kernel
theorem dX12_apply_195 : decode cX12_apply 195 = .ok (.if_icmp .ne 28, 3) := by decide +kernel
theorem dX12_apply_198 : decode cX12_apply 198 = .ok (.aload_n 0, 1) := by decide +kernel
theorem dX12_apply_199 : decode cX12_apply 199 = .ok (.invokevirtual 441, 3) := by decide +kernel
theorem dX12_apply_202 : decode cX12_apply 202 = .ok (.istore_n 2, 1) := by decide +kernel
theorem dX12_apply_203 : decode cX12_apply 203 = .ok (.aload_n 0, 1) := by decide +kernel
theorem dX12_apply_204 : decode cX12_apply 204 = .ok (.aload_n 0, 1) := by decide +kernel
theorem dX12_apply_205 : decode cX12_apply 205 = .ok (.getfield 38, 3) := by decide +kernel
theorem dX12_apply_208 : decode cX12_apply 208 = .ok (.aload_n 0, 1) := by decide +kernel
theorem dX12_apply_209 : decode cX12_apply 209 = .ok (.getfield 29, 3) := by decide +kernel
theorem dX12_apply_212 : decode cX12_apply 212 = .ok (.iload_n 1, 1) := by decide +kernel
theorem dX12_apply_213 : decode cX12_apply 213 = .ok (.iaload, 1) := by decide +kernel
theorem dX12_apply_214 : decode cX12_apply 214 = .ok (.iaload, 1) := by decide +kernel
theorem dX12_apply_215 : decode cX12_apply 215 = .ok (.invokevirtual 416, 3) := by decide +kernel
theorem dX12_apply_218 : decode cX12_apply 218 = .ok (.aload_n 0, 1) := by decide +kernel
theorem dX12_apply_219 : decode cX12_apply 219 = .ok (.iload_n 2, 1) := by decide +kernel
theorem dX12_apply_220 : decode cX12_apply 220 = .ok (.invokevirtual 416, 3) := by decide +kernel
theorem dX12_apply_223 : decode cX12_apply 223 = .ok (.aload_n 0, 1) := by decide +kernel
theorem dX12_apply_224 : decode cX12_apply 224 = .ok (.iload_n 1, 1) := by decide +kernel
theorem dX12_apply_225 : decode cX12_apply 225 = .ok (.invokevirtual 484, 3) := by decide +kernel
theorem dX12_apply_228 : decode cX12_apply 228 = .ok (.return_, 1) := by decide +kernel
theorem dX12_function_0 : decode cX12_function 0 = .ok (.aload_n 0, 1) := by decide +kernel
theorem dX12_function_1 : decode cX12_function 1 = .ok (.getfield 14, 3) := by decide +kernel
theorem dX12_function_4 : decode cX12_function 4 = .ok (.iload_n 1, 1) := by decide +kernel
theorem dX12_function_5 : decode cX12_function 5 = .ok (.iaload, 1) := by decide +kernel
theorem dX12_function_6 : decode cX12_function 6 = .ok (.istore_n 2, 1) := by decide +kernel
theorem dX12_function_7 : decode cX12_function 7 = .ok (.iload_n 2, 1) := by decide +kernel
theorem dX12_function_8 : decode cX12_function 8 = .ok (.iconst 5, 1) := by decide +kernel
theorem dX12_function_9 : decode cX12_function 9 = .ok (.if_icmp .eq 45, 3) := by decide +kernel
theorem dX12_function_12 : decode cX12_function 12 = .ok (.iload_n 2, 1) := by decide +kernel
theorem dX12_function_13 : decode cX12_function 13 = .ok (.bipush 6, 2) := by decide +kernel
theorem dX12_function_15 : decode cX12_function 15 = .ok (.if_icmp .eq 39, 3) := by decide +kernel
theorem dX12_function_18 : decode cX12_function 18 = .ok (.iload_n 2, 1) := by decide +kernel
theorem dX12_function_19 : decode cX12_function 19 = .ok (.bipush 7, 2) := by decide +kernel
theorem dX12_function_21 : decode cX12_function 21 = .ok (.if_icmp .eq 33, 3) := by decide +kernel
theorem dX12_function_24 : decode cX12_function 24 = .ok (.iload_n 2, 1) := by decide +kernel
theorem dX12_function_25 : decode cX12_function 25 = .ok (.bipush 8, 2) := by decide +kernel
theorem dX12_function_27 : decode cX12_function 27 = .ok (.if_icmp .eq 27, 3) := by decide +kernel
theorem dX12_function_30 : decode cX12_function 30 = .ok (.iload_n 2, 1) := by decide +kernel
theorem dX12_function_31 : decode cX12_function 31 = .ok (.bipush 11, 2) := by decide +kernel
theorem dX12_function_33 : decode cX12_function 33 = .ok (.if_icmp .eq 21, 3) := by decide +kernel
theorem dX12_function_36 : decode cX12_function 36 = .ok (.iload_n 2, 1) := by decide +kernel
theorem dX12_function_37 : decode cX12_function 37 = .ok (.bipush 12, 2) := by decide +kernel
theorem dX12_function_39 : decode cX12_function 39 = .ok (.if_icmp .eq 15, 3) := by decide +kernel
theorem dX12_function_42 : decode cX12_function 42 = .ok (.iload_n 2, 1) := by decide +kernel
theorem dX12_function_43 : decode cX12_function 43 = .ok (.bipush 18, 2) := by decide +kernel
theorem dX12_function_45 : decode cX12_function 45 = .ok (.if_icmp .eq 9, 3) := by decide +kernel
theorem dX12_function_48 : decode cX12_function 48 = .ok (.iload_n 2, 1) := by decide +kernel
theorem dX12_function_49 : decode cX12_function 49 = .ok (.bipush 19, 2) := by decide +kernel
theorem dX12_function_51 : decode cX12_function 51 = .ok (.if_icmp .ne 7, 3) := by decide +kernel
theorem dX12_function_54 : decode cX12_function 54 = .ok (.iconst 1, 1) := by decide +kernel
theorem dX12_function_55 : decode cX12_function 55 = .ok (.goto 4, 3) := by decide +kernel
theorem dX12_function_58 : decode cX12_function 58 = .ok (.iconst 0, 1) := by decide +kernel
theorem dX12_function_59 : decode cX12_function 59 = .ok (.istore_n 3, 1) := by decide +kernel
theorem dX12_function_60 : decode cX12_function 60 = .ok (.iload_n 3, 1) := by decide +kernel
theorem dX12_function_61 : decode cX12_function 61 = .ok (.ifCond .ne 9, 3) := by decide +kernel
theorem dX12_function_64 : decode cX12_function 64 = .ok (.aload_n 0, 1) := by decide +kernel
theorem dX12_function_65 : decode cX12_function 65 = .ok (.iload_n 1, 1) := by decide +kernel
theorem dX12_function_66 : decode cX12_function 66 = .ok (.invokevirtual 487, 3) := by decide +kernel
theorem dX12_function_69 : decode cX12_function 69 = .ok (.return_, 1) := by decide +kernel
theorem dX12_function_70 : decode cX12_function 70 = .ok (.iload_n 2, 1) := by decide +kernel
theorem dX12_function_71 : decode cX12_function 71 = .ok (.bipush 7, 2) := by decide +kernel
theorem dX12_function_73 : decode cX12_function 73 = .ok (.if_icmp .eq 15, 3) := by decide +kernel
theorem dX12_function_76 : decode cX12_function 76 = .ok (.iload_n 2, 1) := by decide +kernel
theorem dX12_function_77 : decode cX12_function 77 = .ok (.bipush 8, 2) := by decide +kernel
theorem dX12_function_79 : decode cX12_function 79 = .ok (.if_icmp .eq 9, 3) := by decide +kernel
theorem dX12_function_82 : decode cX12_function 82 = .ok (.iload_n 2, 1) := by decide +kernel
theorem dX12_function_83 : decode cX12_function 83 = .ok (.bipush 18, 2) := by decide +kernel
theorem dX12_function_85 : decode cX12_function 85 = .ok (.if_icmp .ne 13, 3) := by decide +kernel
theorem dX12_function_88 : decode cX12_function 88 = .ok (.aload_n 0, 1) := by decide +kernel
theorem dX12_function_89 : decode cX12_function 89 = .ok (.bipush 17, 2) := by decide +kernel
theorem dX12_function_91 : decode cX12_function 91 = .ok (.iload_n 1, 1) := by decide +kernel
theorem dX12_function_92 : decode cX12_function 92 = .ok (.invokevirtual 454, 3) := by decide +kernel
theorem dX12_function_95 : decode cX12_function 95 = .ok (.goto 26, 3) := by decide +kernel
theorem dX12_function_98 : decode cX12_function 98 = .ok (.iload_n 2, 1) := by decide +kernel
theorem dX12_function_99 : decode cX12_function 99 = .ok (.bipush 12, 2) := by decide +kernel
theorem dX12_function_101 : decode cX12_function 101 = .ok (.if_icmp .ne 13, 3) := by decide +kernel
theorem dX12_function_104 : decode cX12_function 104 = .ok (.aload_n 0, 1) := by decide +kernel
theorem dX12_function_105 : decode cX12_function 105 = .ok (.bipush 21, 2) := by decide +kernel
theorem dX12_function_107 : decode cX12_function 107 = .ok (.iload_n 1, 1) := by decide +kernel
theorem dX12_function_108 : decode cX12_function 108 = .ok (.invokevirtual 454, 3) := by decide +kernel
theorem dX12_function_111 : decode cX12_function 111 = .ok (.goto 10, 3) := by decide +kernel
theorem dX12_function_114 : decode cX12_function 114 = .ok (.aload_n 0, 1) := by decide +kernel
theorem dX12_function_115 : decode cX12_function 115 = .ok (.bipush 15, 2) := by decide +kernel
theorem dX12_function_117 : decode cX12_function 117 = .ok (.iload_n 1, 1) := by decide +kernel
theorem dX12_function_118 : decode cX12_function 118 = .ok (.invokevirtual 454, 3) := by decide +kernel
theorem dX12_function_121 : decode cX12_function 121 = .ok (.iload_n 2, 1) := by decide +kernel
theorem dX12_function_122 : decode cX12_function 122 = .ok (.bipush 7, 2) := by decide +kernel
theorem dX12_function_124 : decode cX12_function 124 = .ok (.if_icmp .ne 10, 3) := by decide +kernel
theorem dX12_function_127 : decode cX12_function 127 = .ok (.aload_n 0, 1) := by decide +kernel
theorem dX12_function_128 : decode cX12_function 128 = .ok (.bipush 16, 2) := by decide +kernel
theorem dX12_function_130 : decode cX12_function 130 = .ok (.iload_n 1, 1) := by decide +kernel
theorem dX12_function_131 : decode cX12_function 131 = .ok (.invokevirtual 454, 3) := by decide +kernel
theorem dX12_function_134 : decode cX12_function 134 = .ok (.aload_n 0, 1) := by decide +kernel
theorem dX12_function_135 : decode cX12_function 135 = .ok (.bipush 11, 2) := by decide +kernel
theorem dX12_function_137 : decode cX12_function 137 = .ok (.aload_n 0, 1) := by decide +kernel
theorem dX12_function_138 : decode cX12_function 138 = .ok (.getfield 29, 3) := by decide +kernel
theorem dX12_function_141 : decode cX12_function 141 = .ok (.iload_n 1, 1) := by decide +kernel
theorem dX12_function_142 : decode cX12_function 142 = .ok (.iaload, 1) := by decide +kernel
theorem dX12_function_143 : decode cX12_function 143 = .ok (.invokevirtual 454, 3) := by decide +kernel
theorem dX12_function_146 : decode cX12_function 146 = .ok (.iload_n 2, 1) := by decide +kernel
theorem dX12_function_147 : decode cX12_function 147 = .ok (.bipush 12, 2) := by decide +kernel
theorem dX12_function_149 : decode cX12_function 149 = .ok (.if_icmp .ne 13, 3) := by decide +kernel
theorem dX12_function_152 : decode cX12_function 152 = .ok (.aload_n 0, 1) := by decide +kernel
theorem dX12_function_153 : decode cX12_function 153 = .ok (.bipush 20, 2) := by decide +kernel
theorem dX12_function_155 : decode cX12_function 155 = .ok (.iload_n 1, 1) := by decide +kernel
theorem dX12_function_156 : decode cX12_function 156 = .ok (.invokevirtual 454, 3) := by decide +kernel
theorem dX12_function_159 : decode cX12_function 159 = .ok (.goto 47, 3) := by decide +kernel
theorem dX12_function_162 : decode cX12_function 162 = .ok (.iload_n 2, 1) := by decide +kernel
theorem dX12_function_163 : decode cX12_function 163 = .ok (.bipush 18, 2) := by decide +kernel
theorem dX12_function_165 : decode cX12_function 165 = .ok (.if_icmp .ne 34, 3) := by decide +kernel
theorem dX12_function_168 : decode cX12_function 168 = .ok (.aload_n 0, 1) := by decide +kernel
theorem dX12_function_169 : decode cX12_function 169 = .ok (.bipush 19, 2) := by decide +kernel
theorem dX12_function_171 : decode cX12_function 171 = .ok (.iload_n 1, 1) := by decide +kernel
theorem dX12_function_172 : decode cX12_function 172 = .ok (.invokevirtual 454, 3) := by decide +kernel
theorem dX12_function_175 : decode cX12_function 175 = .ok (.aload_n 0, 1) := by decide +kernel
theorem dX12_function_176 : decode cX12_function 176 = .ok (.bipush 14, 2) := by decide +kernel
theorem dX12_function_178 : decode cX12_function 178 = .ok (.iload_n 1, 1) := by decide +kernel
theorem dX12_function_179 : decode cX12_function 179 = .ok (.invokevirtual 454, 3) := by decide +kernel
theorem dX12_function_182 : decode cX12_function 182 = .ok (.aload_n 0, 1) := by decide +kernel
theorem dX12_function_183 : decode cX12_function 183 = .ok (.bipush 18, 2) := by decide +kernel
theorem dX12_function_185 : decode cX12_function 185 = .ok (.iload_n 1, 1) := by decide +kernel
theorem dX12_function_186 : decode cX12_function 186 = .ok (.invokevirtual 454, 3) := by decide +kernel
theorem dX12_function_189 : decode cX12_function 189 = .ok (.aload_n 0, 1) := by decide +kernel
theorem dX12_function_190 : decode cX12_function 190 = .ok (.bipush 13, 2) := by decide +kernel
theorem dX12_function_192 : decode cX12_function 192 = .ok (.iload_n 1, 1) := by decide +kernel
theorem dX12_function_193 : decode cX12_function 193 = .ok (.invokevirtual 454, 3) := by decide +kernel
theorem dX12_function_196 : decode cX12_function 196 = .ok (.goto 10, 3) := by decide +kernel
theorem dX12_function_199 : decode cX12_function 199 = .ok (.aload_n 0, 1) := by decide +kernel
theorem dX12_function_200 : decode cX12_function 200 = .ok (.bipush 13, 2) := by decide +kernel
theorem dX12_function_202 : decode cX12_function 202 = .ok (.iload_n 1, 1) := by decide +kernel
theorem dX12_function_203 : decode cX12_function 203 = .ok (.invokevirtual 454, 3) := by decide +kernel
theorem dX12_function_206 : decode cX12_function 206 = .ok (.return_, 1) := by decide +kernel
theorem dX12_ofFunction_0 : decode cX12_ofFunction 0 = .ok (.aload_n 0, 1) := by decide +kernel
theorem dX12_ofFunction_1 : decode cX12_ofFunction 1 = .ok (.getfield 17, 3) := by decide +kernel
theorem dX12_ofFunction_4 : decode cX12_ofFunction 4 = .ok (.iload_n 1, 1) := by decide +kernel
theorem dX12_ofFunction_5 : decode cX12_ofFunction 5 = .ok (.iaload, 1) := by decide +kernel
theorem dX12_ofFunction_6 : decode cX12_ofFunction 6 = .ok (.istore_n 2, 1) := by decide +kernel
theorem dX12_ofFunction_7 : decode cX12_ofFunction 7 = .ok (.aload_n 0, 1) := by decide +kernel
theorem dX12_ofFunction_8 : decode cX12_ofFunction 8 = .ok (.getfield 20, 3) := by decide +kernel
theorem dX12_ofFunction_11 : decode cX12_ofFunction 11 = .ok (.iload_n 1, 1) := by decide +kernel
theorem dX12_ofFunction_12 : decode cX12_ofFunction 12 = .ok (.iaload, 1) := by decide +kernel
theorem dX12_ofFunction_13 : decode cX12_ofFunction 13 = .ok (.istore_n 3, 1) := by decide +kernel
theorem dX12_ofFunction_14 : decode cX12_ofFunction 14 = .ok (.aload_n 0, 1) := by decide +kernel
theorem dX12_ofFunction_15 : decode cX12_ofFunction 15 = .ok (.getfield 11, 3) := by decide +kernel
theorem dX12_ofFunction_18 : decode cX12_ofFunction 18 = .ok (.iload_n 1, 1) := by decide +kernel
theorem dX12_ofFunction_19 : decode cX12_ofFunction 19 = .ok (.iaload, 1) := by decide +kernel
theorem dX12_ofFunction_20 : decode cX12_ofFunction 20 = .ok (.istore 4, 2) := by decide +kernel
theorem dX12_ofFunction_22 : decode cX12_ofFunction 22 = .ok (.aload_n 0, 1) := by decide +kernel
theorem dX12_ofFunction_23 : decode cX12_ofFunction 23 = .ok (.getfield 14, 3) := by decide +kernel
theorem dX12_ofFunction_26 : decode cX12_ofFunction 26 = .ok (.iload_n 1, 1) := by decide +kernel
theorem dX12_ofFunction_27 : decode cX12_ofFunction 27 = .ok (.iaload, 1) := by decide +kernel
theorem dX12_ofFunction_28 : decode cX12_ofFunction 28 = .ok (.tableswitch 350 0 20 #[100, 115, 130, 145, 160, 305, 320, 350, 350, 175, 190, 335, 350, 205, 275, 290, 220, 235, 350, 350, 250], 100) := by decide +kernel
theorem dX12_ofFunction_128 : decode cX12_ofFunction 128 = .ok (.aload_n 0, 1) := by decide +kernel
theorem dX12_ofFunction_129 : decode cX12_ofFunction 129 = .ok (.bipush 9, 2) := by decide +kernel
theorem dX12_ofFunction_131 : decode cX12_ofFunction 131 = .ok (.iload_n 2, 1) := by decide +kernel
theorem dX12_ofFunction_132 : decode cX12_ofFunction 132 = .ok (.iload_n 3, 1) := by decide +kernel
theorem dX12_ofFunction_133 : decode cX12_ofFunction 133 = .ok (.iconst 0, 1) := by decide +kernel
theorem dX12_ofFunction_134 : decode cX12_ofFunction 134 = .ok (.iconst 0, 1) := by decide +kernel
theorem dX12_ofFunction_135 : decode cX12_ofFunction 135 = .ok (.iload 4, 2) := by decide +kernel
theorem dX12_ofFunction_137 : decode cX12_ofFunction 137 = .ok (.invokevirtual 490, 3) := by decide +kernel
theorem dX12_ofFunction_140 : decode cX12_ofFunction 140 = .ok (.goto 260, 3) := by decide +kernel
theorem dX12_ofFunction_143 : decode cX12_ofFunction 143 = .ok (.aload_n 0, 1) := by decide +kernel
theorem dX12_ofFunction_144 : decode cX12_ofFunction 144 = .ok (.bipush 9, 2) := by decide +kernel
theorem dX12_ofFunction_146 : decode cX12_ofFunction 146 = .ok (.iload_n 3, 1) := by decide +kernel
theorem dX12_ofFunction_147 : decode cX12_ofFunction 147 = .ok (.iload_n 2, 1) := by decide +kernel
theorem dX12_ofFunction_148 : decode cX12_ofFunction 148 = .ok (.iconst 0, 1) := by decide +kernel
theorem dX12_ofFunction_149 : decode cX12_ofFunction 149 = .ok (.iconst 0, 1) := by decide +kernel
theorem dX12_ofFunction_150 : decode cX12_ofFunction 150 = .ok (.iload 4, 2) := by decide +kernel
theorem dX12_ofFunction_152 : decode cX12_ofFunction 152 = .ok (.invokevirtual 490, 3) := by decide +kernel
theorem dX12_ofFunction_155 : decode cX12_ofFunction 155 = .ok (.goto 245, 3) := by decide +kernel
theorem dX12_ofFunction_158 : decode cX12_ofFunction 158 = .ok (.aload_n 0, 1) := by decide +kernel
theorem dX12_ofFunction_159 : decode cX12_ofFunction 159 = .ok (.bipush 10, 2) := by decide +kernel
theorem dX12_ofFunction_161 : decode cX12_ofFunction 161 = .ok (.iload_n 2, 1) := by decide +kernel
theorem dX12_ofFunction_162 : decode cX12_ofFunction 162 = .ok (.iload_n 3, 1) := by decide +kernel
theorem dX12_ofFunction_163 : decode cX12_ofFunction 163 = .ok (.iconst 0, 1) := by decide +kernel
theorem dX12_ofFunction_164 : decode cX12_ofFunction 164 = .ok (.iconst 0, 1) := by decide +kernel
theorem dX12_ofFunction_165 : decode cX12_ofFunction 165 = .ok (.iload 4, 2) := by decide +kernel
theorem dX12_ofFunction_167 : decode cX12_ofFunction 167 = .ok (.invokevirtual 490, 3) := by decide +kernel
theorem dX12_ofFunction_170 : decode cX12_ofFunction 170 = .ok (.goto 230, 3) := by decide +kernel
theorem dX12_ofFunction_173 : decode cX12_ofFunction 173 = .ok (.aload_n 0, 1) := by decide +kernel
theorem dX12_ofFunction_174 : decode cX12_ofFunction 174 = .ok (.bipush 11, 2) := by decide +kernel
theorem dX12_ofFunction_176 : decode cX12_ofFunction 176 = .ok (.iload_n 2, 1) := by decide +kernel
theorem dX12_ofFunction_177 : decode cX12_ofFunction 177 = .ok (.iload_n 3, 1) := by decide +kernel
theorem dX12_ofFunction_178 : decode cX12_ofFunction 178 = .ok (.iconst 0, 1) := by decide +kernel
theorem dX12_ofFunction_179 : decode cX12_ofFunction 179 = .ok (.iconst 0, 1) := by decide +kernel
theorem dX12_ofFunction_180 : decode cX12_ofFunction 180 = .ok (.iload 4, 2) := by decide +kernel
theorem dX12_ofFunction_182 : decode cX12_ofFunction 182 = .ok (.invokevirtual 490, 3) := by decide +kernel
theorem dX12_ofFunction_185 : decode cX12_ofFunction 185 = .ok (.goto 215, 3) := by decide +kernel
theorem dX12_ofFunction_188 : decode cX12_ofFunction 188 = .ok (.aload_n 0, 1) := by decide +kernel
theorem dX12_ofFunction_189 : decode cX12_ofFunction 189 = .ok (.bipush 12, 2) := by decide +kernel
theorem dX12_ofFunction_191 : decode cX12_ofFunction 191 = .ok (.iconst 0, 1) := by decide +kernel
theorem dX12_ofFunction_192 : decode cX12_ofFunction 192 = .ok (.iconst 0, 1) := by decide +kernel
theorem dX12_ofFunction_193 : decode cX12_ofFunction 193 = .ok (.iconst 0, 1) := by decide +kernel
theorem dX12_ofFunction_194 : decode cX12_ofFunction 194 = .ok (.iconst 0, 1) := by decide +kernel
theorem dX12_ofFunction_195 : decode cX12_ofFunction 195 = .ok (.iload 4, 2) := by decide +kernel
theorem dX12_ofFunction_197 : decode cX12_ofFunction 197 = .ok (.invokevirtual 490, 3) := by decide +kernel
theorem dX12_ofFunction_200 : decode cX12_ofFunction 200 = .ok (.goto 200, 3) := by decide +kernel
theorem dX12_ofFunction_203 : decode cX12_ofFunction 203 = .ok (.aload_n 0, 1) := by decide +kernel
theorem dX12_ofFunction_204 : decode cX12_ofFunction 204 = .ok (.bipush 17, 2) := by decide +kernel
theorem dX12_ofFunction_206 : decode cX12_ofFunction 206 = .ok (.iload_n 2, 1) := by decide +kernel
theorem dX12_ofFunction_207 : decode cX12_ofFunction 207 = .ok (.iconst 0, 1) := by decide +kernel
theorem dX12_ofFunction_208 : decode cX12_ofFunction 208 = .ok (.iconst 0, 1) := by decide +kernel
theorem dX12_ofFunction_209 : decode cX12_ofFunction 209 = .ok (.iconst 0, 1) := by decide +kernel
theorem dX12_ofFunction_210 : decode cX12_ofFunction 210 = .ok (.iload 4, 2) := by decide +kernel
theorem dX12_ofFunction_212 : decode cX12_ofFunction 212 = .ok (.invokevirtual 490, 3) := by decide +kernel
theorem dX12_ofFunction_215 : decode cX12_ofFunction 215 = .ok (.goto 185, 3) := by decide +kernel
theorem dX12_ofFunction_218 : decode cX12_ofFunction 218 = .ok (.aload_n 0, 1) := by decide +kernel
theorem dX12_ofFunction_219 : decode cX12_ofFunction 219 = .ok (.bipush 18, 2) := by decide +kernel
theorem dX12_ofFunction_221 : decode cX12_ofFunction 221 = .ok (.iload_n 2, 1) := by decide +kernel
theorem dX12_ofFunction_222 : decode cX12_ofFunction 222 = .ok (.iconst 0, 1) := by decide +kernel
theorem dX12_ofFunction_223 : decode cX12_ofFunction 223 = .ok (.iconst 0, 1) := by decide +kernel
theorem dX12_ofFunction_224 : decode cX12_ofFunction 224 = .ok (.iconst 0, 1) := by decide +kernel
theorem dX12_ofFunction_225 : decode cX12_ofFunction 225 = .ok (.iload 4, 2) := by decide +kernel
theorem dX12_ofFunction_227 : decode cX12_ofFunction 227 = .ok (.invokevirtual 490, 3) := by decide +kernel
theorem dX12_ofFunction_230 : decode cX12_ofFunction 230 = .ok (.goto 170, 3) := by decide +kernel
theorem dX12_ofFunction_233 : decode cX12_ofFunction 233 = .ok (.aload_n 0, 1) := by decide +kernel
theorem dX12_ofFunction_234 : decode cX12_ofFunction 234 = .ok (.bipush 19, 2) := by decide +kernel
theorem dX12_ofFunction_236 : decode cX12_ofFunction 236 = .ok (.iload_n 2, 1) := by decide +kernel
theorem dX12_ofFunction_237 : decode cX12_ofFunction 237 = .ok (.iconst 0, 1) := by decide +kernel
theorem dX12_ofFunction_238 : decode cX12_ofFunction 238 = .ok (.iconst 0, 1) := by decide +kernel
theorem dX12_ofFunction_239 : decode cX12_ofFunction 239 = .ok (.iconst 0, 1) := by decide +kernel
theorem dX12_ofFunction_240 : decode cX12_ofFunction 240 = .ok (.iload 4, 2) := by decide +kernel
theorem dX12_ofFunction_242 : decode cX12_ofFunction 242 = .ok (.invokevirtual 490, 3) := by decide +kernel
theorem dX12_ofFunction_245 : decode cX12_ofFunction 245 = .ok (.goto 155, 3) := by decide +kernel
theorem dX12_ofFunction_248 : decode cX12_ofFunction 248 = .ok (.aload_n 0, 1) := by decide +kernel
theorem dX12_ofFunction_249 : decode cX12_ofFunction 249 = .ok (.bipush 21, 2) := by decide +kernel
theorem dX12_ofFunction_251 : decode cX12_ofFunction 251 = .ok (.iload_n 2, 1) := by decide +kernel
theorem dX12_ofFunction_252 : decode cX12_ofFunction 252 = .ok (.iconst 0, 1) := by decide +kernel
theorem dX12_ofFunction_253 : decode cX12_ofFunction 253 = .ok (.iconst 0, 1) := by decide +kernel
theorem dX12_ofFunction_254 : decode cX12_ofFunction 254 = .ok (.iconst 0, 1) := by decide +kernel
theorem dX12_ofFunction_255 : decode cX12_ofFunction 255 = .ok (.iload 4, 2) := by decide +kernel
theorem dX12_ofFunction_257 : decode cX12_ofFunction 257 = .ok (.invokevirtual 490, 3) := by decide +kernel
theorem dX12_ofFunction_260 : decode cX12_ofFunction 260 = .ok (.goto 140, 3) := by decide +kernel
theorem dX12_ofFunction_263 : decode cX12_ofFunction 263 = .ok (.aload_n 0, 1) := by decide +kernel
theorem dX12_ofFunction_264 : decode cX12_ofFunction 264 = .ok (.bipush 22, 2) := by decide +kernel
theorem dX12_ofFunction_266 : decode cX12_ofFunction 266 = .ok (.iload_n 2, 1) := by decide +kernel
theorem dX12_ofFunction_267 : decode cX12_ofFunction 267 = .ok (.iconst 0, 1) := by decide +kernel
theorem dX12_ofFunction_268 : decode cX12_ofFunction 268 = .ok (.iconst 0, 1) := by decide +kernel
theorem dX12_ofFunction_269 : decode cX12_ofFunction 269 = .ok (.iconst 0, 1) := by decide +kernel
theorem dX12_ofFunction_270 : decode cX12_ofFunction 270 = .ok (.iload 4, 2) := by decide +kernel
theorem dX12_ofFunction_272 : decode cX12_ofFunction 272 = .ok (.invokevirtual 490, 3) := by decide +kernel
theorem dX12_ofFunction_275 : decode cX12_ofFunction 275 = .ok (.goto 125, 3) := by decide +kernel
theorem dX12_ofFunction_278 : decode cX12_ofFunction 278 = .ok (.aload_n 0, 1) := by decide +kernel
theorem dX12_ofFunction_279 : decode cX12_ofFunction 279 = .ok (.bipush 20, 2) := by decide +kernel
theorem dX12_ofFunction_281 : decode cX12_ofFunction 281 = .ok (.iload_n 2, 1) := by decide +kernel
theorem dX12_ofFunction_282 : decode cX12_ofFunction 282 = .ok (.iload_n 3, 1) := by decide +kernel
theorem dX12_ofFunction_283 : decode cX12_ofFunction 283 = .ok (.aload_n 0, 1) := by decide +kernel
theorem dX12_ofFunction_284 : decode cX12_ofFunction 284 = .ok (.getfield 23, 3) := by decide +kernel
theorem dX12_ofFunction_287 : decode cX12_ofFunction 287 = .ok (.iload_n 1, 1) := by decide +kernel
theorem dX12_ofFunction_288 : decode cX12_ofFunction 288 = .ok (.iaload, 1) := by decide +kernel
theorem dX12_ofFunction_289 : decode cX12_ofFunction 289 = .ok (.aload_n 0, 1) := by decide +kernel
theorem dX12_ofFunction_290 : decode cX12_ofFunction 290 = .ok (.getfield 26, 3) := by decide +kernel
theorem dX12_ofFunction_293 : decode cX12_ofFunction 293 = .ok (.iload_n 1, 1) := by decide +kernel
theorem dX12_ofFunction_294 : decode cX12_ofFunction 294 = .ok (.iaload, 1) := by decide +kernel
theorem dX12_ofFunction_295 : decode cX12_ofFunction 295 = .ok (.iload 4, 2) := by decide +kernel
theorem dX12_ofFunction_297 : decode cX12_ofFunction 297 = .ok (.invokevirtual 490, 3) := by decide +kernel
theorem dX12_ofFunction_300 : decode cX12_ofFunction 300 = .ok (.goto 100, 3) := by decide +kernel
theorem dX12_ofFunction_303 : decode cX12_ofFunction 303 = .ok (.aload_n 0, 1) := by decide +kernel
theorem dX12_ofFunction_304 : decode cX12_ofFunction 304 = .ok (.bipush 23, 2) := by decide +kernel
theorem dX12_ofFunction_306 : decode cX12_ofFunction 306 = .ok (.iconst 0, 1) := by decide +kernel
theorem dX12_ofFunction_307 : decode cX12_ofFunction 307 = .ok (.iconst 0, 1) := by decide +kernel
theorem dX12_ofFunction_308 : decode cX12_ofFunction 308 = .ok (.iconst 0, 1) := by decide +kernel
theorem dX12_ofFunction_309 : decode cX12_ofFunction 309 = .ok (.iconst 0, 1) := by decide +kernel
theorem dX12_ofFunction_310 : decode cX12_ofFunction 310 = .ok (.iload 4, 2) := by decide +kernel
theorem dX12_ofFunction_312 : decode cX12_ofFunction 312 = .ok (.invokevirtual 465, 3) := by decide +kernel
theorem dX12_ofFunction_315 : decode cX12_ofFunction 315 = .ok (.goto 85, 3) := by decide +kernel
theorem dX12_ofFunction_318 : decode cX12_ofFunction 318 = .ok (.aload_n 0, 1) := by decide +kernel
theorem dX12_ofFunction_319 : decode cX12_ofFunction 319 = .ok (.bipush 24, 2) := by decide +kernel
theorem dX12_ofFunction_321 : decode cX12_ofFunction 321 = .ok (.iconst 0, 1) := by decide +kernel
theorem dX12_ofFunction_322 : decode cX12_ofFunction 322 = .ok (.iconst 0, 1) := by decide +kernel
theorem dX12_ofFunction_323 : decode cX12_ofFunction 323 = .ok (.iconst 0, 1) := by decide +kernel
theorem dX12_ofFunction_324 : decode cX12_ofFunction 324 = .ok (.iconst 0, 1) := by decide +kernel
theorem dX12_ofFunction_325 : decode cX12_ofFunction 325 = .ok (.iload 4, 2) := by decide +kernel
theorem dX12_ofFunction_327 : decode cX12_ofFunction 327 = .ok (.invokevirtual 465, 3) := by decide +kernel
theorem dX12_ofFunction_330 : decode cX12_ofFunction 330 = .ok (.goto 70, 3) := by decide +kernel
theorem dX12_ofFunction_333 : decode cX12_ofFunction 333 = .ok (.aload_n 0, 1) := by decide +kernel
theorem dX12_ofFunction_334 : decode cX12_ofFunction 334 = .ok (.bipush 13, 2) := by decide +kernel
theorem dX12_ofFunction_336 : decode cX12_ofFunction 336 = .ok (.iload_n 2, 1) := by decide +kernel
theorem dX12_ofFunction_337 : decode cX12_ofFunction 337 = .ok (.iconst 0, 1) := by decide +kernel
theorem dX12_ofFunction_338 : decode cX12_ofFunction 338 = .ok (.iconst 0, 1) := by decide +kernel
theorem dX12_ofFunction_339 : decode cX12_ofFunction 339 = .ok (.iconst 0, 1) := by decide +kernel
theorem dX12_ofFunction_340 : decode cX12_ofFunction 340 = .ok (.iload 4, 2) := by decide +kernel
theorem dX12_ofFunction_342 : decode cX12_ofFunction 342 = .ok (.invokevirtual 465, 3) := by decide +kernel
theorem dX12_ofFunction_345 : decode cX12_ofFunction 345 = .ok (.goto 55, 3) := by decide +kernel
theorem dX12_ofFunction_348 : decode cX12_ofFunction 348 = .ok (.aload_n 0, 1) := by decide +kernel
theorem dX12_ofFunction_349 : decode cX12_ofFunction 349 = .ok (.bipush 14, 2) := by decide +kernel
theorem dX12_ofFunction_351 : decode cX12_ofFunction 351 = .ok (.iload_n 2, 1) := by decide +kernel
theorem dX12_ofFunction_352 : decode cX12_ofFunction 352 = .ok (.iload_n 3, 1) := by decide +kernel
theorem dX12_ofFunction_353 : decode cX12_ofFunction 353 = .ok (.iconst 0, 1) := by decide +kernel
theorem dX12_ofFunction_354 : decode cX12_ofFunction 354 = .ok (.iconst 0, 1) := by decide +kernel
theorem dX12_ofFunction_355 : decode cX12_ofFunction 355 = .ok (.iload 4, 2) := by decide +kernel
theorem dX12_ofFunction_357 : decode cX12_ofFunction 357 = .ok (.invokevirtual 465, 3) := by decide +kernel
theorem dX12_ofFunction_360 : decode cX12_ofFunction 360 = .ok (.goto 40, 3) := by decide +kernel
theorem dX12_ofFunction_363 : decode cX12_ofFunction 363 = .ok (.aload_n 0, 1) := by decide +kernel
theorem dX12_ofFunction_364 : decode cX12_ofFunction 364 = .ok (.bipush 15, 2) := by decide +kernel
theorem dX12_ofFunction_366 : decode cX12_ofFunction 366 = .ok (.iload_n 2, 1) := by decide +kernel
theorem dX12_ofFunction_367 : decode cX12_ofFunction 367 = .ok (.iconst 0, 1) := by decide +kernel
theorem dX12_ofFunction_368 : decode cX12_ofFunction 368 = .ok (.iconst 0, 1) := by decide +kernel
theorem dX12_ofFunction_369 : decode cX12_ofFunction 369 = .ok (.iconst 0, 1) := by decide +kernel
theorem dX12_ofFunction_370 : decode cX12_ofFunction 370 = .ok (.iload 4, 2) := by decide +kernel
theorem dX12_ofFunction_372 : decode cX12_ofFunction 372 = .ok (.invokevirtual 465, 3) := by decide +kernel
theorem dX12_ofFunction_375 : decode cX12_ofFunction 375 = .ok (.goto 25, 3) := by decide +kernel
theorem dX12_ofFunction_378 : decode cX12_ofFunction 378 = .ok (.aload_n 0, 1) := by decide +kernel
theorem dX12_ofFunction_379 : decode cX12_ofFunction 379 = .ok (.bipush 16, 2) := by decide +kernel
theorem dX12_ofFunction_381 : decode cX12_ofFunction 381 = .ok (.iload_n 2, 1) := by decide +kernel
theorem dX12_ofFunction_382 : decode cX12_ofFunction 382 = .ok (.iload_n 3, 1) := by decide +kernel
theorem dX12_ofFunction_383 : decode cX12_ofFunction 383 = .ok (.aload_n 0, 1) := by decide +kernel
theorem dX12_ofFunction_384 : decode cX12_ofFunction 384 = .ok (.getfield 23, 3) := by decide +kernel
theorem dX12_ofFunction_387 : decode cX12_ofFunction 387 = .ok (.iload_n 1, 1) := by decide +kernel
theorem dX12_ofFunction_388 : decode cX12_ofFunction 388 = .ok (.iaload, 1) := by decide +kernel
theorem dX12_ofFunction_389 : decode cX12_ofFunction 389 = .ok (.aload_n 0, 1) := by decide +kernel
theorem dX12_ofFunction_390 : decode cX12_ofFunction 390 = .ok (.getfield 26, 3) := by decide +kernel
theorem dX12_ofFunction_393 : decode cX12_ofFunction 393 = .ok (.iload_n 1, 1) := by decide +kernel
theorem dX12_ofFunction_394 : decode cX12_ofFunction 394 = .ok (.iaload, 1) := by decide +kernel
theorem dX12_ofFunction_395 : decode cX12_ofFunction 395 = .ok (.iload 4, 2) := by decide +kernel
theorem dX12_ofFunction_397 : decode cX12_ofFunction 397 = .ok (.invokevirtual 465, 3) := by decide +kernel
theorem dX12_ofFunction_400 : decode cX12_ofFunction 400 = .ok (.return_, 1) := by decide +kernel
theorem dX12_use_0 : decode cX12_use 0 = .ok (.aload_n 0, 1) := by decide +kernel
theorem dX12_use_1 : decode cX12_use 1 = .ok (.getfield 14, 3) := by decide +kernel
theorem dX12_use_4 : decode cX12_use 4 = .ok (.iload_n 1, 1) := by decide +kernel
theorem dX12_use_5 : decode cX12_use 5 = .ok (.iaload, 1) := by decide +kernel
theorem dX12_use_6 : decode cX12_use 6 = .ok (.istore_n 2, 1) := by decide +kernel
theorem dX12_use_7 : decode cX12_use 7 = .ok (.aload_n 0, 1) := by decide +kernel
theorem dX12_use_8 : decode cX12_use 8 = .ok (.getfield 300, 3) := by decide +kernel
theorem dX12_use_11 : decode cX12_use 11 = .ok (.bipush 12, 2) := by decide +kernel
theorem dX12_use_13 : decode cX12_use 13 = .ok (.if_icmp .ne 20, 3) := by decide +kernel
theorem dX12_use_16 : decode cX12_use 16 = .ok (.aload_n 0, 1) := by decide +kernel
theorem dX12_use_17 : decode cX12_use 17 = .ok (.bipush 10, 2) := by decide +kernel
theorem dX12_use_19 : decode cX12_use 19 = .ok (.aload_n 0, 1) := by decide +kernel
theorem dX12_use_20 : decode cX12_use 20 = .ok (.aload_n 0, 1) := by decide +kernel
theorem dX12_use_21 : decode cX12_use 21 = .ok (.getfield 11, 3) := by decide +kernel
theorem dX12_use_24 : decode cX12_use 24 = .ok (.iload_n 1, 1) := by decide +kernel
theorem dX12_use_25 : decode cX12_use 25 = .ok (.iaload, 1) := by decide +kernel
theorem dX12_use_26 : decode cX12_use 26 = .ok (.invokevirtual 309, 3) := by decide +kernel
theorem dX12_use_29 : decode cX12_use 29 = .ok (.invokevirtual 237, 3) := by decide +kernel
theorem dX12_use_32 : decode cX12_use 32 = .ok (.return_, 1) := by decide +kernel
theorem dX12_use_33 : decode cX12_use 33 = .ok (.aload_n 0, 1) := by decide +kernel
theorem dX12_use_34 : decode cX12_use 34 = .ok (.aload_n 0, 1) := by decide +kernel
theorem dX12_use_35 : decode cX12_use 35 = .ok (.getfield 11, 3) := by decide +kernel
theorem dX12_use_38 : decode cX12_use 38 = .ok (.iload_n 1, 1) := by decide +kernel
theorem dX12_use_39 : decode cX12_use 39 = .ok (.iaload, 1) := by decide +kernel
theorem dX12_use_40 : decode cX12_use 40 = .ok (.iconst 1, 1) := by decide +kernel
theorem dX12_use_41 : decode cX12_use 41 = .ok (.invokevirtual 502, 3) := by decide +kernel
theorem dX12_use_44 : decode cX12_use 44 = .ok (.aload_n 0, 1) := by decide +kernel
theorem dX12_use_45 : decode cX12_use 45 = .ok (.getfield 41, 3) := by decide +kernel
theorem dX12_use_48 : decode cX12_use 48 = .ok (.ifCond .eq 4, 3) := by decide +kernel
theorem dX12_use_51 : decode cX12_use 51 = .ok (.return_, 1) := by decide +kernel
theorem dX12_use_52 : decode cX12_use 52 = .ok (.aload_n 0, 1) := by decide +kernel
theorem dX12_use_53 : decode cX12_use 53 = .ok (.getfield 300, 3) := by decide +kernel
theorem dX12_use_56 : decode cX12_use 56 = .ok (.ifCond .ne 13, 3) := by decide +kernel
theorem dX12_use_59 : decode cX12_use 59 = .ok (.aload_n 0, 1) := by decide +kernel
theorem dX12_use_60 : decode cX12_use 60 = .ok (.aload_n 0, 1) := by decide +kernel
theorem dX12_use_61 : decode cX12_use 61 = .ok (.getfield 11, 3) := by decide +kernel
theorem dX12_use_64 : decode cX12_use 64 = .ok (.iload_n 1, 1) := by decide +kernel
theorem dX12_use_65 : decode cX12_use 65 = .ok (.iaload, 1) := by decide +kernel
theorem dX12_use_66 : decode cX12_use 66 = .ok (.putfield 303, 3) := by decide +kernel
theorem dX12_use_69 : decode cX12_use 69 = .ok (.aload_n 0, 1) := by decide +kernel
theorem dX12_use_70 : decode cX12_use 70 = .ok (.dup, 1) := by decide +kernel
theorem dX12_use_71 : decode cX12_use 71 = .ok (.getfield 300, 3) := by decide +kernel
theorem dX12_use_74 : decode cX12_use 74 = .ok (.iconst 1, 1) := by decide +kernel
theorem dX12_use_75 : decode cX12_use 75 = .ok (.iadd, 1) := by decide +kernel
theorem dX12_use_76 : decode cX12_use 76 = .ok (.putfield 300, 3) := by decide +kernel
theorem dX12_use_79 : decode cX12_use 79 = .ok (.aload_n 0, 1) := by decide +kernel
theorem dX12_use_80 : decode cX12_use 80 = .ok (.dup, 1) := by decide +kernel
theorem dX12_use_81 : decode cX12_use 81 = .ok (.getfield 297, 3) := by decide +kernel
theorem dX12_use_84 : decode cX12_use 84 = .ok (.aload_n 0, 1) := by decide +kernel
theorem dX12_use_85 : decode cX12_use 85 = .ok (.getfield 231, 3) := by decide +kernel
theorem dX12_use_88 : decode cX12_use 88 = .ok (.iload_n 2, 1) := by decide +kernel
theorem dX12_use_89 : decode cX12_use 89 = .ok (.iaload, 1) := by decide +kernel
theorem dX12_use_90 : decode cX12_use 90 = .ok (.isub, 1) := by decide +kernel
theorem dX12_use_91 : decode cX12_use 91 = .ok (.putfield 297, 3) := by decide +kernel
theorem dX12_use_94 : decode cX12_use 94 = .ok (.iconst 0, 1) := by decide +kernel
theorem dX12_use_95 : decode cX12_use 95 = .ok (.istore_n 3, 1) := by decide +kernel
theorem dX12_use_96 : decode cX12_use 96 = .ok (.iload_n 3, 1) := by decide +kernel
theorem dX12_use_97 : decode cX12_use 97 = .ok (.aload_n 0, 1) := by decide +kernel
theorem dX12_use_98 : decode cX12_use 98 = .ok (.getfield 231, 3) := by decide +kernel
theorem dX12_use_101 : decode cX12_use 101 = .ok (.iload_n 2, 1) := by decide +kernel
theorem dX12_use_102 : decode cX12_use 102 = .ok (.iaload, 1) := by decide +kernel
theorem dX12_use_103 : decode cX12_use 103 = .ok (.if_icmp .ge 33, 3) := by decide +kernel
theorem dX12_use_106 : decode cX12_use 106 = .ok (.aload_n 0, 1) := by decide +kernel
theorem dX12_use_107 : decode cX12_use 107 = .ok (.getfield 496, 3) := by decide +kernel
theorem dX12_use_110 : decode cX12_use 110 = .ok (.iconst 4, 1) := by decide +kernel
theorem dX12_use_111 : decode cX12_use 111 = .ok (.aload_n 0, 1) := by decide +kernel
theorem dX12_use_112 : decode cX12_use 112 = .ok (.getfield 300, 3) := by decide +kernel
theorem dX12_use_115 : decode cX12_use 115 = .ok (.imul, 1) := by decide +kernel
theorem dX12_use_116 : decode cX12_use 116 = .ok (.iload_n 3, 1) := by decide +kernel
theorem dX12_use_117 : decode cX12_use 117 = .ok (.iadd, 1) := by decide +kernel
theorem dX12_use_118 : decode cX12_use 118 = .ok (.aload_n 0, 1) := by decide +kernel
theorem dX12_use_119 : decode cX12_use 119 = .ok (.getfield 294, 3) := by decide +kernel
theorem dX12_use_122 : decode cX12_use 122 = .ok (.aload_n 0, 1) := by decide +kernel
theorem dX12_use_123 : decode cX12_use 123 = .ok (.getfield 297, 3) := by decide +kernel
theorem dX12_use_126 : decode cX12_use 126 = .ok (.iload_n 3, 1) := by decide +kernel
theorem dX12_use_127 : decode cX12_use 127 = .ok (.iadd, 1) := by decide +kernel
theorem dX12_use_128 : decode cX12_use 128 = .ok (.iaload, 1) := by decide +kernel
theorem dX12_use_129 : decode cX12_use 129 = .ok (.iastore, 1) := by decide +kernel
theorem dX12_use_130 : decode cX12_use 130 = .ok (.iinc 3 1, 3) := by decide +kernel
theorem dX12_use_133 : decode cX12_use 133 = .ok (.goto (-37), 3) := by decide +kernel
theorem dX12_use_136 : decode cX12_use 136 = .ok (.aload_n 0, 1) := by decide +kernel
theorem dX12_use_137 : decode cX12_use 137 = .ok (.bipush 23, 2) := by decide +kernel
theorem dX12_use_139 : decode cX12_use 139 = .ok (.iconst (-1), 1) := by decide +kernel
theorem dX12_use_140 : decode cX12_use 140 = .ok (.invokevirtual 454, 3) := by decide +kernel
theorem dX12_use_143 : decode cX12_use 143 = .ok (.aload_n 0, 1) := by decide +kernel
theorem dX12_use_144 : decode cX12_use 144 = .ok (.iconst 1, 1) := by decide +kernel
theorem dX12_use_145 : decode cX12_use 145 = .ok (.aload_n 0, 1) := by decide +kernel
theorem dX12_use_146 : decode cX12_use 146 = .ok (.getfield 505, 3) := by decide +kernel
theorem dX12_use_149 : decode cX12_use 149 = .ok (.iload_n 2, 1) := by decide +kernel
theorem dX12_use_150 : decode cX12_use 150 = .ok (.iaload, 1) := by decide +kernel
theorem dX12_use_151 : decode cX12_use 151 = .ok (.invokevirtual 454, 3) := by decide +kernel
theorem dX12_use_154 : decode cX12_use 154 = .ok (.return_, 1) := by decide +kernel
theorem dX12_div_0 : decode cX12_div 0 = .ok (.lload_n 0, 1) := by decide +kernel
theorem dX12_div_1 : decode cX12_div 1 = .ok (.lload_n 2, 1) := by decide +kernel
theorem dX12_div_2 : decode cX12_div 2 = .ok (.ldiv, 1) := by decide +kernel
theorem dX12_div_3 : decode cX12_div 3 = .ok (.lstore 4, 2) := by decide +kernel
theorem dX12_div_5 : decode cX12_div 5 = .ok (.lload_n 0, 1) := by decide +kernel
theorem dX12_div_6 : decode cX12_div 6 = .ok (.lload_n 2, 1) := by decide +kernel
theorem dX12_div_7 : decode cX12_div 7 = .ok (.lrem, 1) := by decide +kernel
theorem dX12_div_8 : decode cX12_div 8 = .ok (.lconst 0, 1) := by decide +kernel
theorem dX12_div_9 : decode cX12_div 9 = .ok (.lcmp, 1) := by decide +kernel
theorem dX12_div_10 : decode cX12_div 10 = .ok (.ifCond .ge 10, 3) := by decide +kernel
theorem dX12_div_13 : decode cX12_div 13 = .ok (.lload 4, 2) := by decide +kernel
theorem dX12_div_15 : decode cX12_div 15 = .ok (.lconst 1, 1) := by decide +kernel
theorem dX12_div_16 : decode cX12_div 16 = .ok (.lsub, 1) := by decide +kernel
theorem dX12_div_17 : decode cX12_div 17 = .ok (.goto 5, 3) := by decide +kernel
theorem dX12_div_20 : decode cX12_div 20 = .ok (.lload 4, 2) := by decide +kernel
theorem dX12_div_22 : decode cX12_div 22 = .ok (.lreturn, 1) := by decide +kernel
theorem dX12_mod_0 : decode cX12_mod 0 = .ok (.lload_n 0, 1) := by decide +kernel
theorem dX12_mod_1 : decode cX12_mod 1 = .ok (.lload_n 2, 1) := by decide +kernel
theorem dX12_mod_2 : decode cX12_mod 2 = .ok (.lload_n 0, 1) := by decide +kernel
theorem dX12_mod_3 : decode cX12_mod 3 = .ok (.lload_n 2, 1) := by decide +kernel
theorem dX12_mod_4 : decode cX12_mod 4 = .ok (.invokestatic 508, 3) := by decide +kernel
theorem dX12_mod_7 : decode cX12_mod 7 = .ok (.lmul, 1) := by decide +kernel
theorem dX12_mod_8 : decode cX12_mod 8 = .ok (.lsub, 1) := by decide +kernel
theorem dX12_mod_9 : decode cX12_mod 9 = .ok (.lreturn, 1) := by decide +kernel
theorem dX12_call_0 : decode cX12_call 0 = .ok (.aload_n 0, 1) := by decide +kernel
theorem dX12_call_1 : decode cX12_call 1 = .ok (.getfield 511, 3) := by decide +kernel
theorem dX12_call_4 : decode cX12_call 4 = .ok (.istore 4, 2) := by decide +kernel
theorem dX12_call_6 : decode cX12_call 6 = .ok (.aload_n 0, 1) := by decide +kernel
theorem dX12_call_7 : decode cX12_call 7 = .ok (.dup, 1) := by decide +kernel
theorem dX12_call_8 : decode cX12_call 8 = .ok (.getfield 511, 3) := by decide +kernel
theorem dX12_call_11 : decode cX12_call 11 = .ok (.iconst 1, 1) := by decide +kernel
theorem dX12_call_12 : decode cX12_call 12 = .ok (.iadd, 1) := by decide +kernel
theorem dX12_call_13 : decode cX12_call 13 = .ok (.putfield 511, 3) := by decide +kernel
theorem dX12_call_16 : decode cX12_call 16 = .ok (.aload_n 0, 1) := by decide +kernel
theorem dX12_call_17 : decode cX12_call 17 = .ok (.getfield 514, 3) := by decide +kernel
theorem dX12_call_20 : decode cX12_call 20 = .ok (.iload 4, 2) := by decide +kernel
theorem dX12_call_22 : decode cX12_call 22 = .ok (.iload_n 1, 1) := by decide +kernel
theorem dX12_call_23 : decode cX12_call 23 = .ok (.iastore, 1) := by decide +kernel
theorem dX12_call_24 : decode cX12_call 24 = .ok (.aload_n 0, 1) := by decide +kernel
theorem dX12_call_25 : decode cX12_call 25 = .ok (.getfield 517, 3) := by decide +kernel
theorem dX12_call_28 : decode cX12_call 28 = .ok (.iload 4, 2) := by decide +kernel
theorem dX12_call_30 : decode cX12_call 30 = .ok (.lload_n 2, 1) := by decide +kernel
theorem dX12_call_31 : decode cX12_call 31 = .ok (.lastore, 1) := by decide +kernel
theorem dX12_call_32 : decode cX12_call 32 = .ok (.aload_n 0, 1) := by decide +kernel
theorem dX12_call_33 : decode cX12_call 33 = .ok (.getfield 520, 3) := by decide +kernel
theorem dX12_call_36 : decode cX12_call 36 = .ok (.iload 4, 2) := by decide +kernel
theorem dX12_call_38 : decode cX12_call 38 = .ok (.iconst 0, 1) := by decide +kernel
theorem dX12_call_39 : decode cX12_call 39 = .ok (.iastore, 1) := by decide +kernel
theorem dX12_call_40 : decode cX12_call 40 = .ok (.aload_n 0, 1) := by decide +kernel
theorem dX12_call_41 : decode cX12_call 41 = .ok (.getfield 523, 3) := by decide +kernel
theorem dX12_call_44 : decode cX12_call 44 = .ok (.iload 4, 2) := by decide +kernel
theorem dX12_call_46 : decode cX12_call 46 = .ok (.aload_n 0, 1) := by decide +kernel
theorem dX12_call_47 : decode cX12_call 47 = .ok (.getfield 526, 3) := by decide +kernel
theorem dX12_call_50 : decode cX12_call 50 = .ok (.iastore, 1) := by decide +kernel
theorem dX12_call_51 : decode cX12_call 51 = .ok (.aload_n 0, 1) := by decide +kernel
theorem dX12_call_52 : decode cX12_call 52 = .ok (.getfield 529, 3) := by decide +kernel
theorem dX12_call_55 : decode cX12_call 55 = .ok (.iload 4, 2) := by decide +kernel
theorem dX12_call_57 : decode cX12_call 57 = .ok (.aload_n 0, 1) := by decide +kernel
theorem dX12_call_58 : decode cX12_call 58 = .ok (.getfield 526, 3) := by decide +kernel
theorem dX12_call_61 : decode cX12_call 61 = .ok (.iastore, 1) := by decide +kernel
theorem dX12_call_62 : decode cX12_call 62 = .ok (.aload_n 0, 1) := by decide +kernel
theorem dX12_call_63 : decode cX12_call 63 = .ok (.getfield 532, 3) := by decide +kernel
theorem dX12_call_66 : decode cX12_call 66 = .ok (.iload 4, 2) := by decide +kernel
theorem dX12_call_68 : decode cX12_call 68 = .ok (.iconst 0, 1) := by decide +kernel
theorem dX12_call_69 : decode cX12_call 69 = .ok (.iastore, 1) := by decide +kernel
theorem dX12_call_70 : decode cX12_call 70 = .ok (.aload_n 0, 1) := by decide +kernel
theorem dX12_call_71 : decode cX12_call 71 = .ok (.getfield 535, 3) := by decide +kernel
theorem dX12_call_74 : decode cX12_call 74 = .ok (.iload 4, 2) := by decide +kernel
theorem dX12_call_76 : decode cX12_call 76 = .ok (.iconst 0, 1) := by decide +kernel
theorem dX12_call_77 : decode cX12_call 77 = .ok (.iastore, 1) := by decide +kernel
theorem dX12_call_78 : decode cX12_call 78 = .ok (.aload_n 0, 1) := by decide +kernel
theorem dX12_call_79 : decode cX12_call 79 = .ok (.getfield 538, 3) := by decide +kernel
theorem dX12_call_82 : decode cX12_call 82 = .ok (.iload 4, 2) := by decide +kernel
theorem dX12_call_84 : decode cX12_call 84 = .ok (.lconst 0, 1) := by decide +kernel
theorem dX12_call_85 : decode cX12_call 85 = .ok (.lastore, 1) := by decide +kernel
theorem dX12_call_86 : decode cX12_call 86 = .ok (.aload_n 0, 1) := by decide +kernel
theorem dX12_call_87 : decode cX12_call 87 = .ok (.getfield 541, 3) := by decide +kernel
theorem dX12_call_90 : decode cX12_call 90 = .ok (.iload 4, 2) := by decide +kernel
theorem dX12_call_92 : decode cX12_call 92 = .ok (.lconst 0, 1) := by decide +kernel
theorem dX12_call_93 : decode cX12_call 93 = .ok (.lastore, 1) := by decide +kernel
theorem dX12_call_94 : decode cX12_call 94 = .ok (.aload_n 0, 1) := by decide +kernel
theorem dX12_call_95 : decode cX12_call 95 = .ok (.getfield 544, 3) := by decide +kernel
theorem dX12_call_98 : decode cX12_call 98 = .ok (.iload 4, 2) := by decide +kernel
theorem dX12_call_100 : decode cX12_call 100 = .ok (.lconst 0, 1) := by decide +kernel
theorem dX12_call_101 : decode cX12_call 101 = .ok (.lastore, 1) := by decide +kernel
theorem dX12_call_102 : decode cX12_call 102 = .ok (.return_, 1) := by decide +kernel
theorem dX12_callKid_0 : decode cX12_callKid 0 = .ok (.aload_n 0, 1) := by decide +kernel
theorem dX12_callKid_1 : decode cX12_callKid 1 = .ok (.getfield 529, 3) := by decide +kernel
theorem dX12_callKid_4 : decode cX12_callKid 4 = .ok (.iload_n 1, 1) := by decide +kernel
theorem dX12_callKid_5 : decode cX12_callKid 5 = .ok (.aload_n 0, 1) := by decide +kernel
theorem dX12_callKid_6 : decode cX12_callKid 6 = .ok (.getfield 526, 3) := by decide +kernel
theorem dX12_callKid_9 : decode cX12_callKid 9 = .ok (.iastore, 1) := by decide +kernel
theorem dX12_callKid_10 : decode cX12_callKid 10 = .ok (.aload_n 0, 1) := by decide +kernel
theorem dX12_callKid_11 : decode cX12_callKid 11 = .ok (.getfield 520, 3) := by decide +kernel
theorem dX12_callKid_14 : decode cX12_callKid 14 = .ok (.iload_n 1, 1) := by decide +kernel
theorem dX12_callKid_15 : decode cX12_callKid 15 = .ok (.iconst 1, 1) := by decide +kernel
theorem dX12_callKid_16 : decode cX12_callKid 16 = .ok (.iastore, 1) := by decide +kernel
theorem dX12_callKid_17 : decode cX12_callKid 17 = .ok (.aload_n 0, 1) := by decide +kernel
theorem dX12_callKid_18 : decode cX12_callKid 18 = .ok (.getfield 532, 3) := by decide +kernel
theorem dX12_callKid_21 : decode cX12_callKid 21 = .ok (.iload_n 1, 1) := by decide +kernel
theorem dX12_callKid_22 : decode cX12_callKid 22 = .ok (.iload_n 2, 1) := by decide +kernel
theorem dX12_callKid_23 : decode cX12_callKid 23 = .ok (.iastore, 1) := by decide +kernel
theorem dX12_callKid_24 : decode cX12_callKid 24 = .ok (.aload_n 0, 1) := by decide +kernel
theorem dX12_callKid_25 : decode cX12_callKid 25 = .ok (.aload_n 0, 1) := by decide +kernel
theorem dX12_callKid_26 : decode cX12_callKid 26 = .ok (.getfield 345, 3) := by decide +kernel
theorem dX12_callKid_29 : decode cX12_callKid 29 = .ok (.aload_n 0, 1) := by decide +kernel
theorem dX12_callKid_30 : decode cX12_callKid 30 = .ok (.getfield 339, 3) := by decide +kernel
theorem dX12_callKid_33 : decode cX12_callKid 33 = .ok (.aload_n 0, 1) := by decide +kernel
theorem dX12_callKid_34 : decode cX12_callKid 34 = .ok (.getfield 514, 3) := by decide +kernel
theorem dX12_callKid_37 : decode cX12_callKid 37 = .ok (.iload_n 1, 1) := by decide +kernel
theorem dX12_callKid_38 : decode cX12_callKid 38 = .ok (.iaload, 1) := by decide +kernel
theorem dX12_callKid_39 : decode cX12_callKid 39 = .ok (.iaload, 1) := by decide +kernel
theorem dX12_callKid_40 : decode cX12_callKid 40 = .ok (.iload_n 2, 1) := by decide +kernel
theorem dX12_callKid_41 : decode cX12_callKid 41 = .ok (.iadd, 1) := by decide +kernel
theorem dX12_callKid_42 : decode cX12_callKid 42 = .ok (.iaload, 1) := by decide +kernel
theorem dX12_callKid_43 : decode cX12_callKid 43 = .ok (.lload_n 3, 1) := by decide +kernel
theorem dX12_callKid_44 : decode cX12_callKid 44 = .ok (.invokevirtual 547, 3) := by decide +kernel
theorem dX12_callKid_47 : decode cX12_callKid 47 = .ok (.return_, 1) := by decide +kernel
theorem dX12_rowOf_0 : decode cX12_rowOf 0 = .ok (.aload_n 0, 1) := by decide +kernel
theorem dX12_rowOf_1 : decode cX12_rowOf 1 = .ok (.iconst 0, 1) := by decide +kernel
theorem dX12_rowOf_2 : decode cX12_rowOf 2 = .ok (.putfield 526, 3) := by decide +kernel
theorem dX12_rowOf_5 : decode cX12_rowOf 5 = .ok (.aload_n 0, 1) := by decide +kernel
theorem dX12_rowOf_6 : decode cX12_rowOf 6 = .ok (.iconst 0, 1) := by decide +kernel
theorem dX12_rowOf_7 : decode cX12_rowOf 7 = .ok (.putfield 511, 3) := by decide +kernel
theorem dX12_rowOf_10 : decode cX12_rowOf 10 = .ok (.aload_n 0, 1) := by decide +kernel
theorem dX12_rowOf_11 : decode cX12_rowOf 11 = .ok (.iload_n 1, 1) := by decide +kernel
theorem dX12_rowOf_12 : decode cX12_rowOf 12 = .ok (.lload_n 2, 1) := by decide +kernel
theorem dX12_rowOf_13 : decode cX12_rowOf 13 = .ok (.invokevirtual 547, 3) := by decide +kernel
theorem dX12_rowOf_16 : decode cX12_rowOf 16 = .ok (.aload_n 0, 1) := by decide +kernel
theorem dX12_rowOf_17 : decode cX12_rowOf 17 = .ok (.getfield 511, 3) := by decide +kernel
theorem dX12_rowOf_20 : decode cX12_rowOf 20 = .ok (.ifCond .le 16, 3) := by decide +kernel
theorem dX12_rowOf_23 : decode cX12_rowOf 23 = .ok (.aload_n 0, 1) := by decide +kernel
theorem dX12_rowOf_24 : decode cX12_rowOf 24 = .ok (.aload_n 0, 1) := by decide +kernel
theorem dX12_rowOf_25 : decode cX12_rowOf 25 = .ok (.getfield 511, 3) := by decide +kernel
theorem dX12_rowOf_28 : decode cX12_rowOf 28 = .ok (.iconst 1, 1) := by decide +kernel
theorem dX12_rowOf_29 : decode cX12_rowOf 29 = .ok (.isub, 1) := by decide +kernel
theorem dX12_rowOf_30 : decode cX12_rowOf 30 = .ok (.invokevirtual 551, 3) := by decide +kernel
theorem dX12_rowOf_33 : decode cX12_rowOf 33 = .ok (.goto (-17), 3) := by decide +kernel
theorem dX12_rowOf_36 : decode cX12_rowOf 36 = .ok (.return_, 1) := by decide +kernel
theorem dX12_emit_0 : decode cX12_emit 0 = .ok (.aload_n 0, 1) := by decide +kernel
theorem dX12_emit_1 : decode cX12_emit 1 = .ok (.getfield 554, 3) := by decide +kernel
theorem dX12_emit_4 : decode cX12_emit 4 = .ok (.aload_n 0, 1) := by decide +kernel
theorem dX12_emit_5 : decode cX12_emit 5 = .ok (.getfield 526, 3) := by decide +kernel
theorem dX12_emit_8 : decode cX12_emit 8 = .ok (.lload_n 1, 1) := by decide +kernel
theorem dX12_emit_9 : decode cX12_emit 9 = .ok (.lastore, 1) := by decide +kernel
theorem dX12_emit_10 : decode cX12_emit 10 = .ok (.aload_n 0, 1) := by decide +kernel
theorem dX12_emit_11 : decode cX12_emit 11 = .ok (.getfield 557, 3) := by decide +kernel
theorem dX12_emit_14 : decode cX12_emit 14 = .ok (.aload_n 0, 1) := by decide +kernel
theorem dX12_emit_15 : decode cX12_emit 15 = .ok (.getfield 526, 3) := by decide +kernel
theorem dX12_emit_18 : decode cX12_emit 18 = .ok (.lload_n 3, 1) := by decide +kernel
theorem dX12_emit_19 : decode cX12_emit 19 = .ok (.lastore, 1) := by decide +kernel
theorem dX12_emit_20 : decode cX12_emit 20 = .ok (.aload_n 0, 1) := by decide +kernel
theorem dX12_emit_21 : decode cX12_emit 21 = .ok (.getfield 560, 3) := by decide +kernel
theorem dX12_emit_24 : decode cX12_emit 24 = .ok (.aload_n 0, 1) := by decide +kernel
theorem dX12_emit_25 : decode cX12_emit 25 = .ok (.getfield 526, 3) := by decide +kernel
theorem dX12_emit_28 : decode cX12_emit 28 = .ok (.iload 5, 2) := by decide +kernel
theorem dX12_emit_30 : decode cX12_emit 30 = .ok (.iastore, 1) := by decide +kernel
theorem dX12_emit_31 : decode cX12_emit 31 = .ok (.aload_n 0, 1) := by decide +kernel
theorem dX12_emit_32 : decode cX12_emit 32 = .ok (.getfield 563, 3) := by decide +kernel
theorem dX12_emit_35 : decode cX12_emit 35 = .ok (.aload_n 0, 1) := by decide +kernel
theorem dX12_emit_36 : decode cX12_emit 36 = .ok (.getfield 526, 3) := by decide +kernel
theorem dX12_emit_39 : decode cX12_emit 39 = .ok (.iload 6, 2) := by decide +kernel
theorem dX12_emit_41 : decode cX12_emit 41 = .ok (.iastore, 1) := by decide +kernel
theorem dX12_emit_42 : decode cX12_emit 42 = .ok (.aload_n 0, 1) := by decide +kernel
theorem dX12_emit_43 : decode cX12_emit 43 = .ok (.getfield 566, 3) := by decide +kernel
theorem dX12_emit_46 : decode cX12_emit 46 = .ok (.aload_n 0, 1) := by decide +kernel
theorem dX12_emit_47 : decode cX12_emit 47 = .ok (.getfield 526, 3) := by decide +kernel
theorem dX12_emit_50 : decode cX12_emit 50 = .ok (.iload 7, 2) := by decide +kernel
theorem dX12_emit_52 : decode cX12_emit 52 = .ok (.iastore, 1) := by decide +kernel
theorem dX12_emit_53 : decode cX12_emit 53 = .ok (.aload_n 0, 1) := by decide +kernel
theorem dX12_emit_54 : decode cX12_emit 54 = .ok (.getfield 569, 3) := by decide +kernel
theorem dX12_emit_57 : decode cX12_emit 57 = .ok (.aload_n 0, 1) := by decide +kernel
theorem dX12_emit_58 : decode cX12_emit 58 = .ok (.getfield 526, 3) := by decide +kernel
theorem dX12_emit_61 : decode cX12_emit 61 = .ok (.iload 8, 2) := by decide +kernel
theorem dX12_emit_63 : decode cX12_emit 63 = .ok (.iastore, 1) := by decide +kernel
theorem dX12_emit_64 : decode cX12_emit 64 = .ok (.aload_n 0, 1) := by decide +kernel
theorem dX12_emit_65 : decode cX12_emit 65 = .ok (.dup, 1) := by decide +kernel
theorem dX12_emit_66 : decode cX12_emit 66 = .ok (.getfield 526, 3) := by decide +kernel
theorem dX12_emit_69 : decode cX12_emit 69 = .ok (.iconst 1, 1) := by decide +kernel
theorem dX12_emit_70 : decode cX12_emit 70 = .ok (.iadd, 1) := by decide +kernel
theorem dX12_emit_71 : decode cX12_emit 71 = .ok (.putfield 526, 3) := by decide +kernel
theorem dX12_emit_74 : decode cX12_emit 74 = .ok (.return_, 1) := by decide +kernel
theorem dX12_copy_0 : decode cX12_copy 0 = .ok (.aload_n 0, 1) := by decide +kernel
theorem dX12_copy_1 : decode cX12_copy 1 = .ok (.getfield 554, 3) := by decide +kernel
theorem dX12_copy_4 : decode cX12_copy 4 = .ok (.iload_n 2, 1) := by decide +kernel
theorem dX12_copy_5 : decode cX12_copy 5 = .ok (.aload_n 0, 1) := by decide +kernel
theorem dX12_copy_6 : decode cX12_copy 6 = .ok (.getfield 554, 3) := by decide +kernel
theorem dX12_copy_9 : decode cX12_copy 9 = .ok (.iload_n 1, 1) := by decide +kernel
theorem dX12_copy_10 : decode cX12_copy 10 = .ok (.laload, 1) := by decide +kernel
theorem dX12_copy_11 : decode cX12_copy 11 = .ok (.lastore, 1) := by decide +kernel
theorem dX12_copy_12 : decode cX12_copy 12 = .ok (.aload_n 0, 1) := by decide +kernel
theorem dX12_copy_13 : decode cX12_copy 13 = .ok (.getfield 557, 3) := by decide +kernel
theorem dX12_copy_16 : decode cX12_copy 16 = .ok (.iload_n 2, 1) := by decide +kernel
theorem dX12_copy_17 : decode cX12_copy 17 = .ok (.aload_n 0, 1) := by decide +kernel
theorem dX12_copy_18 : decode cX12_copy 18 = .ok (.getfield 557, 3) := by decide +kernel
theorem dX12_copy_21 : decode cX12_copy 21 = .ok (.iload_n 1, 1) := by decide +kernel
theorem dX12_copy_22 : decode cX12_copy 22 = .ok (.laload, 1) := by decide +kernel
theorem dX12_copy_23 : decode cX12_copy 23 = .ok (.lastore, 1) := by decide +kernel
theorem dX12_copy_24 : decode cX12_copy 24 = .ok (.aload_n 0, 1) := by decide +kernel
theorem dX12_copy_25 : decode cX12_copy 25 = .ok (.getfield 560, 3) := by decide +kernel
theorem dX12_copy_28 : decode cX12_copy 28 = .ok (.iload_n 2, 1) := by decide +kernel
theorem dX12_copy_29 : decode cX12_copy 29 = .ok (.aload_n 0, 1) := by decide +kernel
theorem dX12_copy_30 : decode cX12_copy 30 = .ok (.getfield 560, 3) := by decide +kernel
theorem dX12_copy_33 : decode cX12_copy 33 = .ok (.iload_n 1, 1) := by decide +kernel
theorem dX12_copy_34 : decode cX12_copy 34 = .ok (.iaload, 1) := by decide +kernel
theorem dX12_copy_35 : decode cX12_copy 35 = .ok (.iastore, 1) := by decide +kernel
theorem dX12_copy_36 : decode cX12_copy 36 = .ok (.aload_n 0, 1) := by decide +kernel
theorem dX12_copy_37 : decode cX12_copy 37 = .ok (.getfield 563, 3) := by decide +kernel
theorem dX12_copy_40 : decode cX12_copy 40 = .ok (.iload_n 2, 1) := by decide +kernel
theorem dX12_copy_41 : decode cX12_copy 41 = .ok (.aload_n 0, 1) := by decide +kernel
theorem dX12_copy_42 : decode cX12_copy 42 = .ok (.getfield 563, 3) := by decide +kernel
theorem dX12_copy_45 : decode cX12_copy 45 = .ok (.iload_n 1, 1) := by decide +kernel
theorem dX12_copy_46 : decode cX12_copy 46 = .ok (.iaload, 1) := by decide +kernel
theorem dX12_copy_47 : decode cX12_copy 47 = .ok (.iastore, 1) := by decide +kernel
theorem dX12_copy_48 : decode cX12_copy 48 = .ok (.aload_n 0, 1) := by decide +kernel
theorem dX12_copy_49 : decode cX12_copy 49 = .ok (.getfield 566, 3) := by decide +kernel
theorem dX12_copy_52 : decode cX12_copy 52 = .ok (.iload_n 2, 1) := by decide +kernel
theorem dX12_copy_53 : decode cX12_copy 53 = .ok (.aload_n 0, 1) := by decide +kernel
theorem dX12_copy_54 : decode cX12_copy 54 = .ok (.getfield 566, 3) := by decide +kernel
theorem dX12_copy_57 : decode cX12_copy 57 = .ok (.iload_n 1, 1) := by decide +kernel
theorem dX12_copy_58 : decode cX12_copy 58 = .ok (.iaload, 1) := by decide +kernel
theorem dX12_copy_59 : decode cX12_copy 59 = .ok (.iastore, 1) := by decide +kernel
theorem dX12_copy_60 : decode cX12_copy 60 = .ok (.aload_n 0, 1) := by decide +kernel
theorem dX12_copy_61 : decode cX12_copy 61 = .ok (.getfield 569, 3) := by decide +kernel
theorem dX12_copy_64 : decode cX12_copy 64 = .ok (.iload_n 2, 1) := by decide +kernel
theorem dX12_copy_65 : decode cX12_copy 65 = .ok (.aload_n 0, 1) := by decide +kernel
theorem dX12_copy_66 : decode cX12_copy 66 = .ok (.getfield 569, 3) := by decide +kernel
theorem dX12_copy_69 : decode cX12_copy 69 = .ok (.iload_n 1, 1) := by decide +kernel
theorem dX12_copy_70 : decode cX12_copy 70 = .ok (.iaload, 1) := by decide +kernel
theorem dX12_copy_71 : decode cX12_copy 71 = .ok (.iastore, 1) := by decide +kernel
theorem dX12_copy_72 : decode cX12_copy 72 = .ok (.aload_n 0, 1) := by decide +kernel
theorem dX12_copy_73 : decode cX12_copy 73 = .ok (.getfield 572, 3) := by decide +kernel
theorem dX12_copy_76 : decode cX12_copy 76 = .ok (.iload_n 2, 1) := by decide +kernel
theorem dX12_copy_77 : decode cX12_copy 77 = .ok (.aload_n 0, 1) := by decide +kernel
theorem dX12_copy_78 : decode cX12_copy 78 = .ok (.getfield 572, 3) := by decide +kernel
theorem dX12_copy_81 : decode cX12_copy 81 = .ok (.iload_n 1, 1) := by decide +kernel
theorem dX12_copy_82 : decode cX12_copy 82 = .ok (.iaload, 1) := by decide +kernel
theorem dX12_copy_83 : decode cX12_copy 83 = .ok (.iastore, 1) := by decide +kernel
theorem dX12_copy_84 : decode cX12_copy 84 = .ok (.aload_n 0, 1) := by decide +kernel
theorem dX12_copy_85 : decode cX12_copy 85 = .ok (.getfield 575, 3) := by decide +kernel
theorem dX12_copy_88 : decode cX12_copy 88 = .ok (.iload_n 2, 1) := by decide +kernel
theorem dX12_copy_89 : decode cX12_copy 89 = .ok (.aload_n 0, 1) := by decide +kernel
theorem dX12_copy_90 : decode cX12_copy 90 = .ok (.getfield 575, 3) := by decide +kernel
theorem dX12_copy_93 : decode cX12_copy 93 = .ok (.iload_n 1, 1) := by decide +kernel
theorem dX12_copy_94 : decode cX12_copy 94 = .ok (.iaload, 1) := by decide +kernel
theorem dX12_copy_95 : decode cX12_copy 95 = .ok (.iastore, 1) := by decide +kernel
theorem dX12_copy_96 : decode cX12_copy 96 = .ok (.aload_n 0, 1) := by decide +kernel
theorem dX12_copy_97 : decode cX12_copy 97 = .ok (.getfield 578, 3) := by decide +kernel
theorem dX12_copy_100 : decode cX12_copy 100 = .ok (.iload_n 2, 1) := by decide +kernel
theorem dX12_copy_101 : decode cX12_copy 101 = .ok (.aload_n 0, 1) := by decide +kernel
theorem dX12_copy_102 : decode cX12_copy 102 = .ok (.getfield 578, 3) := by decide +kernel
theorem dX12_copy_105 : decode cX12_copy 105 = .ok (.iload_n 1, 1) := by decide +kernel
theorem dX12_copy_106 : decode cX12_copy 106 = .ok (.iaload, 1) := by decide +kernel
theorem dX12_copy_107 : decode cX12_copy 107 = .ok (.iastore, 1) := by decide +kernel
theorem dX12_copy_108 : decode cX12_copy 108 = .ok (.aload_n 0, 1) := by decide +kernel
theorem dX12_copy_109 : decode cX12_copy 109 = .ok (.getfield 581, 3) := by decide +kernel
theorem dX12_copy_112 : decode cX12_copy 112 = .ok (.iload_n 2, 1) := by decide +kernel
theorem dX12_copy_113 : decode cX12_copy 113 = .ok (.aload_n 0, 1) := by decide +kernel
theorem dX12_copy_114 : decode cX12_copy 114 = .ok (.getfield 581, 3) := by decide +kernel
theorem dX12_copy_117 : decode cX12_copy 117 = .ok (.iload_n 1, 1) := by decide +kernel
theorem dX12_copy_118 : decode cX12_copy 118 = .ok (.iaload, 1) := by decide +kernel
theorem dX12_copy_119 : decode cX12_copy 119 = .ok (.iastore, 1) := by decide +kernel
theorem dX12_copy_120 : decode cX12_copy 120 = .ok (.return_, 1) := by decide +kernel
theorem dX12_sort_0 : decode cX12_sort 0 = .ok (.iload_n 1, 1) := by decide +kernel
theorem dX12_sort_1 : decode cX12_sort 1 = .ok (.iconst 1, 1) := by decide +kernel
theorem dX12_sort_2 : decode cX12_sort 2 = .ok (.iadd, 1) := by decide +kernel
theorem dX12_sort_3 : decode cX12_sort 3 = .ok (.istore_n 2, 1) := by decide +kernel
theorem dX12_sort_4 : decode cX12_sort 4 = .ok (.iload_n 2, 1) := by decide +kernel
theorem dX12_sort_5 : decode cX12_sort 5 = .ok (.aload_n 0, 1) := by decide +kernel
theorem dX12_sort_6 : decode cX12_sort 6 = .ok (.getfield 526, 3) := by decide +kernel
theorem dX12_sort_9 : decode cX12_sort 9 = .ok (.if_icmp .ge 88, 3) := by decide +kernel
theorem dX12_sort_12 : decode cX12_sort 12 = .ok (.aload_n 0, 1) := by decide +kernel
theorem dX12_sort_13 : decode cX12_sort 13 = .ok (.getfield 554, 3) := by decide +kernel
theorem dX12_sort_16 : decode cX12_sort 16 = .ok (.iload_n 2, 1) := by decide +kernel
theorem dX12_sort_17 : decode cX12_sort 17 = .ok (.laload, 1) := by decide +kernel
theorem dX12_sort_18 : decode cX12_sort 18 = .ok (.lstore_n 3, 1) := by decide +kernel
theorem dX12_sort_19 : decode cX12_sort 19 = .ok (.aload_n 0, 1) := by decide +kernel
theorem dX12_sort_20 : decode cX12_sort 20 = .ok (.getfield 554, 3) := by decide +kernel
theorem dX12_sort_23 : decode cX12_sort 23 = .ok (.iload_n 2, 1) := by decide +kernel
theorem dX12_sort_24 : decode cX12_sort 24 = .ok (.iconst 1, 1) := by decide +kernel
theorem dX12_sort_25 : decode cX12_sort 25 = .ok (.isub, 1) := by decide +kernel
theorem dX12_sort_26 : decode cX12_sort 26 = .ok (.laload, 1) := by decide +kernel
theorem dX12_sort_27 : decode cX12_sort 27 = .ok (.lload_n 3, 1) := by decide +kernel
theorem dX12_sort_28 : decode cX12_sort 28 = .ok (.lcmp, 1) := by decide +kernel
theorem dX12_sort_29 : decode cX12_sort 29 = .ok (.ifCond .gt 6, 3) := by decide +kernel
theorem dX12_sort_32 : decode cX12_sort 32 = .ok (.goto 59, 3) := by decide +kernel
theorem dX12_sort_35 : decode cX12_sort 35 = .ok (.aload_n 0, 1) := by decide +kernel
theorem dX12_sort_36 : decode cX12_sort 36 = .ok (.iload_n 2, 1) := by decide +kernel
theorem dX12_sort_37 : decode cX12_sort 37 = .ok (.sipush 29999, 3) := by decide +kernel
theorem dX12_sort_40 : decode cX12_sort 40 = .ok (.invokevirtual 584, 3) := by decide +kernel
theorem dX12_sort_43 : decode cX12_sort 43 = .ok (.iload_n 2, 1) := by decide +kernel
theorem dX12_sort_44 : decode cX12_sort 44 = .ok (.istore 5, 2) := by decide +kernel
theorem dX12_sort_46 : decode cX12_sort 46 = .ok (.iload 5, 2) := by decide +kernel
theorem dX12_sort_48 : decode cX12_sort 48 = .ok (.iload_n 1, 1) := by decide +kernel
theorem dX12_sort_49 : decode cX12_sort 49 = .ok (.if_icmp .le 33, 3) := by decide +kernel
theorem dX12_sort_52 : decode cX12_sort 52 = .ok (.aload_n 0, 1) := by decide +kernel
theorem dX12_sort_53 : decode cX12_sort 53 = .ok (.getfield 554, 3) := by decide +kernel
theorem dX12_sort_56 : decode cX12_sort 56 = .ok (.iload 5, 2) := by decide +kernel
theorem dX12_sort_58 : decode cX12_sort 58 = .ok (.iconst 1, 1) := by decide +kernel
theorem dX12_sort_59 : decode cX12_sort 59 = .ok (.isub, 1) := by decide +kernel
theorem dX12_sort_60 : decode cX12_sort 60 = .ok (.laload, 1) := by decide +kernel
theorem dX12_sort_61 : decode cX12_sort 61 = .ok (.lload_n 3, 1) := by decide +kernel
theorem dX12_sort_62 : decode cX12_sort 62 = .ok (.lcmp, 1) := by decide +kernel
theorem dX12_sort_63 : decode cX12_sort 63 = .ok (.ifCond .le 19, 3) := by decide +kernel
theorem dX12_sort_66 : decode cX12_sort 66 = .ok (.aload_n 0, 1) := by decide +kernel
theorem dX12_sort_67 : decode cX12_sort 67 = .ok (.iload 5, 2) := by decide +kernel
theorem dX12_sort_69 : decode cX12_sort 69 = .ok (.iconst 1, 1) := by decide +kernel
theorem dX12_sort_70 : decode cX12_sort 70 = .ok (.isub, 1) := by decide +kernel
theorem dX12_sort_71 : decode cX12_sort 71 = .ok (.iload 5, 2) := by decide +kernel
theorem dX12_sort_73 : decode cX12_sort 73 = .ok (.invokevirtual 584, 3) := by decide +kernel
theorem dX12_sort_76 : decode cX12_sort 76 = .ok (.iinc 5 (-1), 3) := by decide +kernel
theorem dX12_sort_79 : decode cX12_sort 79 = .ok (.goto (-33), 3) := by decide +kernel
theorem dX12_sort_82 : decode cX12_sort 82 = .ok (.aload_n 0, 1) := by decide +kernel
theorem dX12_sort_83 : decode cX12_sort 83 = .ok (.sipush 29999, 3) := by decide +kernel
theorem dX12_sort_86 : decode cX12_sort 86 = .ok (.iload 5, 2) := by decide +kernel
theorem dX12_sort_88 : decode cX12_sort 88 = .ok (.invokevirtual 584, 3) := by decide +kernel
theorem dX12_sort_91 : decode cX12_sort 91 = .ok (.iinc 2 1, 3) := by decide +kernel
theorem dX12_sort_94 : decode cX12_sort 94 = .ok (.goto (-90), 3) := by decide +kernel
theorem dX12_sort_97 : decode cX12_sort 97 = .ok (.return_, 1) := by decide +kernel
theorem dX12_move_0 : decode cX12_move 0 = .ok (.iload_n 1, 1) := by decide +kernel
theorem dX12_move_1 : decode cX12_move 1 = .ok (.istore 6, 2) := by decide +kernel
theorem dX12_move_3 : decode cX12_move 3 = .ok (.iload 6, 2) := by decide +kernel
theorem dX12_move_5 : decode cX12_move 5 = .ok (.aload_n 0, 1) := by decide +kernel
theorem dX12_move_6 : decode cX12_move 6 = .ok (.getfield 526, 3) := by decide +kernel
theorem dX12_move_9 : decode cX12_move 9 = .ok (.if_icmp .ge 47, 3) := by decide +kernel
theorem dX12_move_12 : decode cX12_move 12 = .ok (.aload_n 0, 1) := by decide +kernel
theorem dX12_move_13 : decode cX12_move 13 = .ok (.getfield 554, 3) := by decide +kernel
theorem dX12_move_16 : decode cX12_move 16 = .ok (.iload 6, 2) := by decide +kernel
theorem dX12_move_18 : decode cX12_move 18 = .ok (.aload_n 0, 1) := by decide +kernel
theorem dX12_move_19 : decode cX12_move 19 = .ok (.getfield 554, 3) := by decide +kernel
theorem dX12_move_22 : decode cX12_move 22 = .ok (.iload 6, 2) := by decide +kernel
theorem dX12_move_24 : decode cX12_move 24 = .ok (.laload, 1) := by decide +kernel
theorem dX12_move_25 : decode cX12_move 25 = .ok (.lload_n 2, 1) := by decide +kernel
theorem dX12_move_26 : decode cX12_move 26 = .ok (.lmul, 1) := by decide +kernel
theorem dX12_move_27 : decode cX12_move 27 = .ok (.lload 4, 2) := by decide +kernel
theorem dX12_move_29 : decode cX12_move 29 = .ok (.ladd, 1) := by decide +kernel
theorem dX12_move_30 : decode cX12_move 30 = .ok (.lastore, 1) := by decide +kernel
theorem dX12_move_31 : decode cX12_move 31 = .ok (.aload_n 0, 1) := by decide +kernel
theorem dX12_move_32 : decode cX12_move 32 = .ok (.getfield 557, 3) := by decide +kernel
theorem dX12_move_35 : decode cX12_move 35 = .ok (.iload 6, 2) := by decide +kernel
theorem dX12_move_37 : decode cX12_move 37 = .ok (.aload_n 0, 1) := by decide +kernel
theorem dX12_move_38 : decode cX12_move 38 = .ok (.getfield 557, 3) := by decide +kernel
theorem dX12_move_41 : decode cX12_move 41 = .ok (.iload 6, 2) := by decide +kernel
theorem dX12_move_43 : decode cX12_move 43 = .ok (.laload, 1) := by decide +kernel
theorem dX12_move_44 : decode cX12_move 44 = .ok (.lload_n 2, 1) := by decide +kernel
theorem dX12_move_45 : decode cX12_move 45 = .ok (.lmul, 1) := by decide +kernel
theorem dX12_move_46 : decode cX12_move 46 = .ok (.lload 4, 2) := by decide +kernel
theorem dX12_move_48 : decode cX12_move 48 = .ok (.ladd, 1) := by decide +kernel
theorem dX12_move_49 : decode cX12_move 49 = .ok (.lastore, 1) := by decide +kernel
theorem dX12_move_50 : decode cX12_move 50 = .ok (.iinc 6 1, 3) := by decide +kernel
theorem dX12_move_53 : decode cX12_move 53 = .ok (.goto (-50), 3) := by decide +kernel
theorem dX12_move_56 : decode cX12_move 56 = .ok (.return_, 1) := by decide +kernel
theorem dX12_clip_0 : decode cX12_clip 0 = .ok (.iload_n 1, 1) := by decide +kernel
theorem dX12_clip_1 : decode cX12_clip 1 = .ok (.istore 6, 2) := by decide +kernel
theorem dX12_clip_3 : decode cX12_clip 3 = .ok (.iload_n 1, 1) := by decide +kernel
theorem dX12_clip_4 : decode cX12_clip 4 = .ok (.istore 7, 2) := by decide +kernel
theorem dX12_clip_6 : decode cX12_clip 6 = .ok (.iload 7, 2) := by decide +kernel
theorem dX12_clip_8 : decode cX12_clip 8 = .ok (.aload_n 0, 1) := by decide +kernel
theorem dX12_clip_9 : decode cX12_clip 9 = .ok (.getfield 526, 3) := by decide +kernel
theorem dX12_clip_12 : decode cX12_clip 12 = .ok (.if_icmp .ge 48, 3) := by decide +kernel
theorem dX12_clip_15 : decode cX12_clip 15 = .ok (.aload_n 0, 1) := by decide +kernel
theorem dX12_clip_16 : decode cX12_clip 16 = .ok (.getfield 554, 3) := by decide +kernel
theorem dX12_clip_19 : decode cX12_clip 19 = .ok (.iload 7, 2) := by decide +kernel
theorem dX12_clip_21 : decode cX12_clip 21 = .ok (.laload, 1) := by decide +kernel
theorem dX12_clip_22 : decode cX12_clip 22 = .ok (.lload_n 2, 1) := by decide +kernel
theorem dX12_clip_23 : decode cX12_clip 23 = .ok (.lcmp, 1) := by decide +kernel
theorem dX12_clip_24 : decode cX12_clip 24 = .ok (.ifCond .lt 30, 3) := by decide +kernel
theorem dX12_clip_27 : decode cX12_clip 27 = .ok (.aload_n 0, 1) := by decide +kernel
theorem dX12_clip_28 : decode cX12_clip 28 = .ok (.getfield 554, 3) := by decide +kernel
theorem dX12_clip_31 : decode cX12_clip 31 = .ok (.iload 7, 2) := by decide +kernel
theorem dX12_clip_33 : decode cX12_clip 33 = .ok (.laload, 1) := by decide +kernel
theorem dX12_clip_34 : decode cX12_clip 34 = .ok (.lload 4, 2) := by decide +kernel
theorem dX12_clip_36 : decode cX12_clip 36 = .ok (.lcmp, 1) := by decide +kernel
theorem dX12_clip_37 : decode cX12_clip 37 = .ok (.ifCond .lt 6, 3) := by decide +kernel
theorem dX12_clip_40 : decode cX12_clip 40 = .ok (.goto 14, 3) := by decide +kernel
theorem dX12_clip_43 : decode cX12_clip 43 = .ok (.aload_n 0, 1) := by decide +kernel
theorem dX12_clip_44 : decode cX12_clip 44 = .ok (.iload 7, 2) := by decide +kernel
theorem dX12_clip_46 : decode cX12_clip 46 = .ok (.iload 6, 2) := by decide +kernel
theorem dX12_clip_48 : decode cX12_clip 48 = .ok (.invokevirtual 584, 3) := by decide +kernel
theorem dX12_clip_51 : decode cX12_clip 51 = .ok (.iinc 6 1, 3) := by decide +kernel
theorem dX12_clip_54 : decode cX12_clip 54 = .ok (.iinc 7 1, 3) := by decide +kernel
theorem dX12_clip_57 : decode cX12_clip 57 = .ok (.goto (-51), 3) := by decide +kernel
theorem dX12_clip_60 : decode cX12_clip 60 = .ok (.aload_n 0, 1) := by decide +kernel
theorem dX12_clip_61 : decode cX12_clip 61 = .ok (.iload 6, 2) := by decide +kernel
theorem dX12_clip_63 : decode cX12_clip 63 = .ok (.putfield 526, 3) := by decide +kernel
theorem dX12_clip_66 : decode cX12_clip 66 = .ok (.return_, 1) := by decide +kernel
theorem dX12_step_0 : decode cX12_step 0 = .ok (.aload_n 0, 1) := by decide +kernel
theorem dX12_step_1 : decode cX12_step 1 = .ok (.getfield 514, 3) := by decide +kernel
theorem dX12_step_4 : decode cX12_step 4 = .ok (.iload_n 1, 1) := by decide +kernel
theorem dX12_step_5 : decode cX12_step 5 = .ok (.iaload, 1) := by decide +kernel
theorem dX12_step_6 : decode cX12_step 6 = .ok (.istore_n 2, 1) := by decide +kernel
theorem dX12_step_7 : decode cX12_step 7 = .ok (.aload_n 0, 1) := by decide +kernel
theorem dX12_step_8 : decode cX12_step 8 = .ok (.getfield 517, 3) := by decide +kernel
theorem dX12_step_11 : decode cX12_step 11 = .ok (.iload_n 1, 1) := by decide +kernel
theorem dX12_step_12 : decode cX12_step 12 = .ok (.laload, 1) := by decide +kernel
theorem dX12_step_13 : decode cX12_step 13 = .ok (.lstore_n 3, 1) := by decide +kernel
theorem dX12_step_14 : decode cX12_step 14 = .ok (.aload_n 0, 1) := by decide +kernel
theorem dX12_step_15 : decode cX12_step 15 = .ok (.getfield 375, 3) := by decide +kernel
theorem dX12_step_18 : decode cX12_step 18 = .ok (.iload_n 2, 1) := by decide +kernel
theorem dX12_step_19 : decode cX12_step 19 = .ok (.iaload, 1) := by decide +kernel
theorem dX12_step_20 : decode cX12_step 20 = .ok (.tableswitch 261 1 25 #[116, 141, 161, 164, 175, 186, 197, 208, 228, 228, 228, 261, 261, 261, 239, 239, 228, 228, 261, 261, 261, 261, 250, 250, 250], 116) := by decide +kernel
theorem dX12_step_136 : decode cX12_step 136 = .ok (.aload_n 0, 1) := by decide +kernel
theorem dX12_step_137 : decode cX12_step 137 = .ok (.lload_n 3, 1) := by decide +kernel
theorem dX12_step_138 : decode cX12_step 138 = .ok (.lload_n 3, 1) := by decide +kernel
theorem dX12_step_139 : decode cX12_step 139 = .ok (.lconst 1, 1) := by decide +kernel
theorem dX12_step_140 : decode cX12_step 140 = .ok (.ladd, 1) := by decide +kernel
theorem dX12_step_141 : decode cX12_step 141 = .ok (.aload_n 0, 1) := by decide +kernel
theorem dX12_step_142 : decode cX12_step 142 = .ok (.getfield 378, 3) := by decide +kernel
theorem dX12_step_145 : decode cX12_step 145 = .ok (.iload_n 2, 1) := by decide +kernel
theorem dX12_step_146 : decode cX12_step 146 = .ok (.iaload, 1) := by decide +kernel
theorem dX12_step_147 : decode cX12_step 147 = .ok (.aload_n 0, 1) := by decide +kernel
theorem dX12_step_148 : decode cX12_step 148 = .ok (.getfield 381, 3) := by decide +kernel
theorem dX12_step_151 : decode cX12_step 151 = .ok (.iload_n 2, 1) := by decide +kernel
theorem dX12_step_152 : decode cX12_step 152 = .ok (.iaload, 1) := by decide +kernel
theorem dX12_step_153 : decode cX12_step 153 = .ok (.iconst 0, 1) := by decide +kernel
theorem dX12_step_154 : decode cX12_step 154 = .ok (.iconst 1, 1) := by decide +kernel
theorem dX12_step_155 : decode cX12_step 155 = .ok (.invokevirtual 587, 3) := by decide +kernel
theorem dX12_step_158 : decode cX12_step 158 = .ok (.goto 134, 3) := by decide +kernel
theorem dX12_step_161 : decode cX12_step 161 = .ok (.aload_n 0, 1) := by decide +kernel
theorem dX12_step_162 : decode cX12_step 162 = .ok (.lload_n 3, 1) := by decide +kernel
theorem dX12_step_163 : decode cX12_step 163 = .ok (.lload_n 3, 1) := by decide +kernel
theorem dX12_step_164 : decode cX12_step 164 = .ok (.lconst 1, 1) := by decide +kernel
theorem dX12_step_165 : decode cX12_step 165 = .ok (.ladd, 1) := by decide +kernel
theorem dX12_step_166 : decode cX12_step 166 = .ok (.iconst 0, 1) := by decide +kernel
theorem dX12_step_167 : decode cX12_step 167 = .ok (.iconst 0, 1) := by decide +kernel
theorem dX12_step_168 : decode cX12_step 168 = .ok (.aload_n 0, 1) := by decide +kernel
theorem dX12_step_169 : decode cX12_step 169 = .ok (.getfield 378, 3) := by decide +kernel
theorem dX12_step_172 : decode cX12_step 172 = .ok (.iload_n 2, 1) := by decide +kernel
theorem dX12_step_173 : decode cX12_step 173 = .ok (.iaload, 1) := by decide +kernel
theorem dX12_step_174 : decode cX12_step 174 = .ok (.iconst 2, 1) := by decide +kernel
theorem dX12_step_175 : decode cX12_step 175 = .ok (.invokevirtual 587, 3) := by decide +kernel
theorem dX12_step_178 : decode cX12_step 178 = .ok (.goto 114, 3) := by decide +kernel
theorem dX12_step_181 : decode cX12_step 181 = .ok (.goto 111, 3) := by decide +kernel
theorem dX12_step_184 : decode cX12_step 184 = .ok (.aload_n 0, 1) := by decide +kernel
theorem dX12_step_185 : decode cX12_step 185 = .ok (.iload_n 1, 1) := by decide +kernel
theorem dX12_step_186 : decode cX12_step 186 = .ok (.iload_n 2, 1) := by decide +kernel
theorem dX12_step_187 : decode cX12_step 187 = .ok (.lload_n 3, 1) := by decide +kernel
theorem dX12_step_188 : decode cX12_step 188 = .ok (.invokevirtual 591, 3) := by decide +kernel
theorem dX12_step_191 : decode cX12_step 191 = .ok (.ifCond .eq 101, 3) := by decide +kernel
theorem dX12_step_194 : decode cX12_step 194 = .ok (.return_, 1) := by decide +kernel
theorem dX12_step_195 : decode cX12_step 195 = .ok (.aload_n 0, 1) := by decide +kernel
theorem dX12_step_196 : decode cX12_step 196 = .ok (.iload_n 1, 1) := by decide +kernel
theorem dX12_step_197 : decode cX12_step 197 = .ok (.iload_n 2, 1) := by decide +kernel
theorem dX12_step_198 : decode cX12_step 198 = .ok (.lload_n 3, 1) := by decide +kernel
theorem dX12_step_199 : decode cX12_step 199 = .ok (.invokevirtual 595, 3) := by decide +kernel
theorem dX12_step_202 : decode cX12_step 202 = .ok (.ifCond .eq 90, 3) := by decide +kernel
theorem dX12_step_205 : decode cX12_step 205 = .ok (.return_, 1) := by decide +kernel
theorem dX12_step_206 : decode cX12_step 206 = .ok (.aload_n 0, 1) := by decide +kernel
theorem dX12_step_207 : decode cX12_step 207 = .ok (.iload_n 1, 1) := by decide +kernel
theorem dX12_step_208 : decode cX12_step 208 = .ok (.iload_n 2, 1) := by decide +kernel
theorem dX12_step_209 : decode cX12_step 209 = .ok (.lload_n 3, 1) := by decide +kernel
theorem dX12_step_210 : decode cX12_step 210 = .ok (.invokevirtual 598, 3) := by decide +kernel
theorem dX12_step_213 : decode cX12_step 213 = .ok (.ifCond .eq 79, 3) := by decide +kernel
theorem dX12_step_216 : decode cX12_step 216 = .ok (.return_, 1) := by decide +kernel
theorem dX12_step_217 : decode cX12_step 217 = .ok (.aload_n 0, 1) := by decide +kernel
theorem dX12_step_218 : decode cX12_step 218 = .ok (.iload_n 1, 1) := by decide +kernel
theorem dX12_step_219 : decode cX12_step 219 = .ok (.iload_n 2, 1) := by decide +kernel
theorem dX12_step_220 : decode cX12_step 220 = .ok (.lload_n 3, 1) := by decide +kernel
theorem dX12_step_221 : decode cX12_step 221 = .ok (.invokevirtual 601, 3) := by decide +kernel
theorem dX12_step_224 : decode cX12_step 224 = .ok (.ifCond .eq 68, 3) := by decide +kernel
theorem dX12_step_227 : decode cX12_step 227 = .ok (.return_, 1) := by decide +kernel
theorem dX12_step_228 : decode cX12_step 228 = .ok (.aload_n 0, 1) := by decide +kernel
theorem dX12_step_229 : decode cX12_step 229 = .ok (.getfield 378, 3) := by decide +kernel
theorem dX12_step_232 : decode cX12_step 232 = .ok (.iload_n 2, 1) := by decide +kernel
theorem dX12_step_233 : decode cX12_step 233 = .ok (.iaload, 1) := by decide +kernel
theorem dX12_step_234 : decode cX12_step 234 = .ok (.ifCond .le 58, 3) := by decide +kernel
theorem dX12_step_237 : decode cX12_step 237 = .ok (.aload_n 0, 1) := by decide +kernel
theorem dX12_step_238 : decode cX12_step 238 = .ok (.iload_n 1, 1) := by decide +kernel
theorem dX12_step_239 : decode cX12_step 239 = .ok (.iload_n 2, 1) := by decide +kernel
theorem dX12_step_240 : decode cX12_step 240 = .ok (.lload_n 3, 1) := by decide +kernel
theorem dX12_step_241 : decode cX12_step 241 = .ok (.invokevirtual 604, 3) := by decide +kernel
theorem dX12_step_244 : decode cX12_step 244 = .ok (.ifCond .eq 48, 3) := by decide +kernel
theorem dX12_step_247 : decode cX12_step 247 = .ok (.return_, 1) := by decide +kernel
theorem dX12_step_248 : decode cX12_step 248 = .ok (.aload_n 0, 1) := by decide +kernel
theorem dX12_step_249 : decode cX12_step 249 = .ok (.iload_n 1, 1) := by decide +kernel
theorem dX12_step_250 : decode cX12_step 250 = .ok (.iload_n 2, 1) := by decide +kernel
theorem dX12_step_251 : decode cX12_step 251 = .ok (.lload_n 3, 1) := by decide +kernel
theorem dX12_step_252 : decode cX12_step 252 = .ok (.invokevirtual 607, 3) := by decide +kernel
theorem dX12_step_255 : decode cX12_step 255 = .ok (.ifCond .eq 37, 3) := by decide +kernel
theorem dX12_step_258 : decode cX12_step 258 = .ok (.return_, 1) := by decide +kernel
theorem dX12_step_259 : decode cX12_step 259 = .ok (.aload_n 0, 1) := by decide +kernel
theorem dX12_step_260 : decode cX12_step 260 = .ok (.iload_n 1, 1) := by decide +kernel
theorem dX12_step_261 : decode cX12_step 261 = .ok (.iload_n 2, 1) := by decide +kernel
theorem dX12_step_262 : decode cX12_step 262 = .ok (.lload_n 3, 1) := by decide +kernel
theorem dX12_step_263 : decode cX12_step 263 = .ok (.invokevirtual 610, 3) := by decide +kernel
theorem dX12_step_266 : decode cX12_step 266 = .ok (.ifCond .eq 26, 3) := by decide +kernel
theorem dX12_step_269 : decode cX12_step 269 = .ok (.return_, 1) := by decide +kernel
theorem dX12_step_270 : decode cX12_step 270 = .ok (.aload_n 0, 1) := by decide +kernel
theorem dX12_step_271 : decode cX12_step 271 = .ok (.iload_n 1, 1) := by decide +kernel
theorem dX12_step_272 : decode cX12_step 272 = .ok (.iload_n 2, 1) := by decide +kernel
theorem dX12_step_273 : decode cX12_step 273 = .ok (.lload_n 3, 1) := by decide +kernel
theorem dX12_step_274 : decode cX12_step 274 = .ok (.invokevirtual 613, 3) := by decide +kernel
theorem dX12_step_277 : decode cX12_step 277 = .ok (.ifCond .eq 15, 3) := by decide +kernel
theorem dX12_step_280 : decode cX12_step 280 = .ok (.return_, 1) := by decide +kernel
theorem dX12_step_281 : decode cX12_step 281 = .ok (.aload_n 0, 1) := by decide +kernel
theorem dX12_step_282 : decode cX12_step 282 = .ok (.iload_n 1, 1) := by decide +kernel
theorem dX12_step_283 : decode cX12_step 283 = .ok (.iload_n 2, 1) := by decide +kernel
theorem dX12_step_284 : decode cX12_step 284 = .ok (.lload_n 3, 1) := by decide +kernel
theorem dX12_step_285 : decode cX12_step 285 = .ok (.invokevirtual 616, 3) := by decide +kernel
theorem dX12_step_288 : decode cX12_step 288 = .ok (.ifCond .eq 4, 3) := by decide +kernel
theorem dX12_step_291 : decode cX12_step 291 = .ok (.return_, 1) := by decide +kernel
theorem dX12_step_292 : decode cX12_step 292 = .ok (.aload_n 0, 1) := by decide +kernel
theorem dX12_step_293 : decode cX12_step 293 = .ok (.dup, 1) := by decide +kernel
theorem dX12_step_294 : decode cX12_step 294 = .ok (.getfield 511, 3) := by decide +kernel
theorem dX12_step_297 : decode cX12_step 297 = .ok (.iconst 1, 1) := by decide +kernel
theorem dX12_step_298 : decode cX12_step 298 = .ok (.isub, 1) := by decide +kernel
theorem dX12_step_299 : decode cX12_step 299 = .ok (.putfield 511, 3) := by decide +kernel
theorem dX12_step_302 : decode cX12_step 302 = .ok (.return_, 1) := by decide +kernel
theorem dX12_grainOf_0 : decode cX12_grainOf 0 = .ok (.aload_n 0, 1) := by decide +kernel
theorem dX12_grainOf_1 : decode cX12_grainOf 1 = .ok (.getfield 351, 3) := by decide +kernel
theorem dX12_grainOf_4 : decode cX12_grainOf 4 = .ok (.aload_n 0, 1) := by decide +kernel
theorem dX12_grainOf_5 : decode cX12_grainOf 5 = .ok (.getfield 345, 3) := by decide +kernel
theorem dX12_grainOf_8 : decode cX12_grainOf 8 = .ok (.aload_n 0, 1) := by decide +kernel
theorem dX12_grainOf_9 : decode cX12_grainOf 9 = .ok (.getfield 339, 3) := by decide +kernel
theorem dX12_grainOf_12 : decode cX12_grainOf 12 = .ok (.aload_n 0, 1) := by decide +kernel
theorem dX12_grainOf_13 : decode cX12_grainOf 13 = .ok (.getfield 514, 3) := by decide +kernel
theorem dX12_grainOf_16 : decode cX12_grainOf 16 = .ok (.iload_n 1, 1) := by decide +kernel
theorem dX12_grainOf_17 : decode cX12_grainOf 17 = .ok (.iaload, 1) := by decide +kernel
theorem dX12_grainOf_18 : decode cX12_grainOf 18 = .ok (.iaload, 1) := by decide +kernel
theorem dX12_grainOf_19 : decode cX12_grainOf 19 = .ok (.aload_n 0, 1) := by decide +kernel
theorem dX12_grainOf_20 : decode cX12_grainOf 20 = .ok (.getfield 532, 3) := by decide +kernel
theorem dX12_grainOf_23 : decode cX12_grainOf 23 = .ok (.iload_n 1, 1) := by decide +kernel
theorem dX12_grainOf_24 : decode cX12_grainOf 24 = .ok (.iaload, 1) := by decide +kernel
theorem dX12_grainOf_25 : decode cX12_grainOf 25 = .ok (.iadd, 1) := by decide +kernel
theorem dX12_grainOf_26 : decode cX12_grainOf 26 = .ok (.iaload, 1) := by decide +kernel
theorem dX12_grainOf_27 : decode cX12_grainOf 27 = .ok (.iaload, 1) := by decide +kernel
theorem dX12_grainOf_28 : decode cX12_grainOf 28 = .ok (.i2l, 1) := by decide +kernel
theorem dX12_grainOf_29 : decode cX12_grainOf 29 = .ok (.lreturn, 1) := by decide +kernel
theorem dX12_sequence_0 : decode cX12_sequence 0 = .ok (.aload_n 0, 1) := by decide +kernel
theorem dX12_sequence_1 : decode cX12_sequence 1 = .ok (.getfield 351, 3) := by decide +kernel
theorem dX12_sequence_4 : decode cX12_sequence 4 = .ok (.iload_n 2, 1) := by decide +kernel
theorem dX12_sequence_5 : decode cX12_sequence 5 = .ok (.iaload, 1) := by decide +kernel
theorem dX12_sequence_6 : decode cX12_sequence 6 = .ok (.i2l, 1) := by decide +kernel
theorem dX12_sequence_7 : decode cX12_sequence 7 = .ok (.lstore 5, 2) := by decide +kernel
theorem dX12_sequence_9 : decode cX12_sequence 9 = .ok (.aload_n 0, 1) := by decide +kernel
theorem dX12_sequence_10 : decode cX12_sequence 10 = .ok (.getfield 520, 3) := by decide +kernel
theorem dX12_sequence_13 : decode cX12_sequence 13 = .ok (.iload_n 1, 1) := by decide +kernel
theorem dX12_sequence_14 : decode cX12_sequence 14 = .ok (.iaload, 1) := by decide +kernel
theorem dX12_sequence_15 : decode cX12_sequence 15 = .ok (.ifCond .ne 17, 3) := by decide +kernel
theorem dX12_sequence_18 : decode cX12_sequence 18 = .ok (.aload_n 0, 1) := by decide +kernel
theorem dX12_sequence_19 : decode cX12_sequence 19 = .ok (.getfield 544, 3) := by decide +kernel
theorem dX12_sequence_22 : decode cX12_sequence 22 = .ok (.iload_n 1, 1) := by decide +kernel
theorem dX12_sequence_23 : decode cX12_sequence 23 = .ok (.aload_n 0, 1) := by decide +kernel
theorem dX12_sequence_24 : decode cX12_sequence 24 = .ok (.iload_n 2, 1) := by decide +kernel
theorem dX12_sequence_25 : decode cX12_sequence 25 = .ok (.invokevirtual 423, 3) := by decide +kernel
theorem dX12_sequence_28 : decode cX12_sequence 28 = .ok (.lastore, 1) := by decide +kernel
theorem dX12_sequence_29 : decode cX12_sequence 29 = .ok (.goto 157, 3) := by decide +kernel
theorem dX12_sequence_32 : decode cX12_sequence 32 = .ok (.lload 5, 2) := by decide +kernel
theorem dX12_sequence_34 : decode cX12_sequence 34 = .ok (.aload_n 0, 1) := by decide +kernel
theorem dX12_sequence_35 : decode cX12_sequence 35 = .ok (.getfield 544, 3) := by decide +kernel
theorem dX12_sequence_38 : decode cX12_sequence 38 = .ok (.iload_n 1, 1) := by decide +kernel
theorem dX12_sequence_39 : decode cX12_sequence 39 = .ok (.laload, 1) := by decide +kernel
theorem dX12_sequence_40 : decode cX12_sequence 40 = .ok (.ldiv, 1) := by decide +kernel
theorem dX12_sequence_41 : decode cX12_sequence 41 = .ok (.lstore 7, 2) := by decide +kernel
theorem dX12_sequence_43 : decode cX12_sequence 43 = .ok (.aload_n 0, 1) := by decide +kernel
theorem dX12_sequence_44 : decode cX12_sequence 44 = .ok (.getfield 348, 3) := by decide +kernel
theorem dX12_sequence_47 : decode cX12_sequence 47 = .ok (.aload_n 0, 1) := by decide +kernel
theorem dX12_sequence_48 : decode cX12_sequence 48 = .ok (.getfield 339, 3) := by decide +kernel
theorem dX12_sequence_51 : decode cX12_sequence 51 = .ok (.iload_n 2, 1) := by decide +kernel
theorem dX12_sequence_52 : decode cX12_sequence 52 = .ok (.iaload, 1) := by decide +kernel
theorem dX12_sequence_53 : decode cX12_sequence 53 = .ok (.aload_n 0, 1) := by decide +kernel
theorem dX12_sequence_54 : decode cX12_sequence 54 = .ok (.getfield 532, 3) := by decide +kernel
theorem dX12_sequence_57 : decode cX12_sequence 57 = .ok (.iload_n 1, 1) := by decide +kernel
theorem dX12_sequence_58 : decode cX12_sequence 58 = .ok (.iaload, 1) := by decide +kernel
theorem dX12_sequence_59 : decode cX12_sequence 59 = .ok (.iadd, 1) := by decide +kernel
theorem dX12_sequence_60 : decode cX12_sequence 60 = .ok (.iaload, 1) := by decide +kernel
theorem dX12_sequence_61 : decode cX12_sequence 61 = .ok (.bipush 32, 2) := by decide +kernel
theorem dX12_sequence_63 : decode cX12_sequence 63 = .ok (.irem, 1) := by decide +kernel
theorem dX12_sequence_64 : decode cX12_sequence 64 = .ok (.istore 9, 2) := by decide +kernel
theorem dX12_sequence_66 : decode cX12_sequence 66 = .ok (.iload 9, 2) := by decide +kernel
theorem dX12_sequence_68 : decode cX12_sequence 68 = .ok (.i2l, 1) := by decide +kernel
theorem dX12_sequence_69 : decode cX12_sequence 69 = .ok (.lload 7, 2) := by decide +kernel
theorem dX12_sequence_71 : decode cX12_sequence 71 = .ok (.aload_n 0, 1) := by decide +kernel
theorem dX12_sequence_72 : decode cX12_sequence 72 = .ok (.iload_n 1, 1) := by decide +kernel
theorem dX12_sequence_73 : decode cX12_sequence 73 = .ok (.invokevirtual 619, 3) := by decide +kernel
theorem dX12_sequence_76 : decode cX12_sequence 76 = .ok (.ldiv, 1) := by decide +kernel
theorem dX12_sequence_77 : decode cX12_sequence 77 = .ok (.lmul, 1) := by decide +kernel
theorem dX12_sequence_78 : decode cX12_sequence 78 = .ok (.lstore 10, 2) := by decide +kernel
theorem dX12_sequence_80 : decode cX12_sequence 80 = .ok (.aload_n 0, 1) := by decide +kernel
theorem dX12_sequence_81 : decode cX12_sequence 81 = .ok (.aload_n 0, 1) := by decide +kernel
theorem dX12_sequence_82 : decode cX12_sequence 82 = .ok (.getfield 529, 3) := by decide +kernel
theorem dX12_sequence_85 : decode cX12_sequence 85 = .ok (.iload_n 1, 1) := by decide +kernel
theorem dX12_sequence_86 : decode cX12_sequence 86 = .ok (.iaload, 1) := by decide +kernel
theorem dX12_sequence_87 : decode cX12_sequence 87 = .ok (.lload 10, 2) := by decide +kernel
theorem dX12_sequence_89 : decode cX12_sequence 89 = .ok (.lload_n 3, 1) := by decide +kernel
theorem dX12_sequence_90 : decode cX12_sequence 90 = .ok (.lload 5, 2) := by decide +kernel
theorem dX12_sequence_92 : decode cX12_sequence 92 = .ok (.lmul, 1) := by decide +kernel
theorem dX12_sequence_93 : decode cX12_sequence 93 = .ok (.aload_n 0, 1) := by decide +kernel
theorem dX12_sequence_94 : decode cX12_sequence 94 = .ok (.getfield 538, 3) := by decide +kernel
theorem dX12_sequence_97 : decode cX12_sequence 97 = .ok (.iload_n 1, 1) := by decide +kernel
theorem dX12_sequence_98 : decode cX12_sequence 98 = .ok (.laload, 1) := by decide +kernel
theorem dX12_sequence_99 : decode cX12_sequence 99 = .ok (.lload 7, 2) := by decide +kernel
theorem dX12_sequence_101 : decode cX12_sequence 101 = .ok (.lmul, 1) := by decide +kernel
theorem dX12_sequence_102 : decode cX12_sequence 102 = .ok (.ladd, 1) := by decide +kernel
theorem dX12_sequence_103 : decode cX12_sequence 103 = .ok (.lload_n 3, 1) := by decide +kernel
theorem dX12_sequence_104 : decode cX12_sequence 104 = .ok (.aload_n 0, 1) := by decide +kernel
theorem dX12_sequence_105 : decode cX12_sequence 105 = .ok (.iload_n 1, 1) := by decide +kernel
theorem dX12_sequence_106 : decode cX12_sequence 106 = .ok (.invokevirtual 619, 3) := by decide +kernel
theorem dX12_sequence_109 : decode cX12_sequence 109 = .ok (.lmul, 1) := by decide +kernel
theorem dX12_sequence_110 : decode cX12_sequence 110 = .ok (.lload 10, 2) := by decide +kernel
theorem dX12_sequence_112 : decode cX12_sequence 112 = .ok (.lmul, 1) := by decide +kernel
theorem dX12_sequence_113 : decode cX12_sequence 113 = .ok (.lsub, 1) := by decide +kernel
theorem dX12_sequence_114 : decode cX12_sequence 114 = .ok (.invokevirtual 622, 3) := by decide +kernel
theorem dX12_sequence_117 : decode cX12_sequence 117 = .ok (.aload_n 0, 1) := by decide +kernel
theorem dX12_sequence_118 : decode cX12_sequence 118 = .ok (.getfield 538, 3) := by decide +kernel
theorem dX12_sequence_121 : decode cX12_sequence 121 = .ok (.iload_n 1, 1) := by decide +kernel
theorem dX12_sequence_122 : decode cX12_sequence 122 = .ok (.dup2, 1) := by decide +kernel
theorem dX12_sequence_123 : decode cX12_sequence 123 = .ok (.laload, 1) := by decide +kernel
theorem dX12_sequence_124 : decode cX12_sequence 124 = .ok (.iload 9, 2) := by decide +kernel
theorem dX12_sequence_126 : decode cX12_sequence 126 = .ok (.i2l, 1) := by decide +kernel
theorem dX12_sequence_127 : decode cX12_sequence 127 = .ok (.ladd, 1) := by decide +kernel
theorem dX12_sequence_128 : decode cX12_sequence 128 = .ok (.lastore, 1) := by decide +kernel
theorem dX12_sequence_129 : decode cX12_sequence 129 = .ok (.aload_n 0, 1) := by decide +kernel
theorem dX12_sequence_130 : decode cX12_sequence 130 = .ok (.getfield 535, 3) := by decide +kernel
theorem dX12_sequence_133 : decode cX12_sequence 133 = .ok (.iload_n 1, 1) := by decide +kernel
theorem dX12_sequence_134 : decode cX12_sequence 134 = .ok (.dup2, 1) := by decide +kernel
theorem dX12_sequence_135 : decode cX12_sequence 135 = .ok (.iaload, 1) := by decide +kernel
theorem dX12_sequence_136 : decode cX12_sequence 136 = .ok (.iconst 1, 1) := by decide +kernel
theorem dX12_sequence_137 : decode cX12_sequence 137 = .ok (.iadd, 1) := by decide +kernel
theorem dX12_sequence_138 : decode cX12_sequence 138 = .ok (.iastore, 1) := by decide +kernel
theorem dX12_sequence_139 : decode cX12_sequence 139 = .ok (.aload_n 0, 1) := by decide +kernel
theorem dX12_sequence_140 : decode cX12_sequence 140 = .ok (.getfield 535, 3) := by decide +kernel
theorem dX12_sequence_143 : decode cX12_sequence 143 = .ok (.iload_n 1, 1) := by decide +kernel
theorem dX12_sequence_144 : decode cX12_sequence 144 = .ok (.iaload, 1) := by decide +kernel
theorem dX12_sequence_145 : decode cX12_sequence 145 = .ok (.aload_n 0, 1) := by decide +kernel
theorem dX12_sequence_146 : decode cX12_sequence 146 = .ok (.getfield 348, 3) := by decide +kernel
theorem dX12_sequence_149 : decode cX12_sequence 149 = .ok (.aload_n 0, 1) := by decide +kernel
theorem dX12_sequence_150 : decode cX12_sequence 150 = .ok (.getfield 339, 3) := by decide +kernel
theorem dX12_sequence_153 : decode cX12_sequence 153 = .ok (.iload_n 2, 1) := by decide +kernel
theorem dX12_sequence_154 : decode cX12_sequence 154 = .ok (.iaload, 1) := by decide +kernel
theorem dX12_sequence_155 : decode cX12_sequence 155 = .ok (.aload_n 0, 1) := by decide +kernel
theorem dX12_sequence_156 : decode cX12_sequence 156 = .ok (.getfield 532, 3) := by decide +kernel
theorem dX12_sequence_159 : decode cX12_sequence 159 = .ok (.iload_n 1, 1) := by decide +kernel
theorem dX12_sequence_160 : decode cX12_sequence 160 = .ok (.iaload, 1) := by decide +kernel
theorem dX12_sequence_161 : decode cX12_sequence 161 = .ok (.iadd, 1) := by decide +kernel
theorem dX12_sequence_162 : decode cX12_sequence 162 = .ok (.iaload, 1) := by decide +kernel
theorem dX12_sequence_163 : decode cX12_sequence 163 = .ok (.bipush 32, 2) := by decide +kernel
theorem dX12_sequence_165 : decode cX12_sequence 165 = .ok (.idiv, 1) := by decide +kernel
theorem dX12_sequence_166 : decode cX12_sequence 166 = .ok (.if_icmp .ne 20, 3) := by decide +kernel
theorem dX12_sequence_169 : decode cX12_sequence 169 = .ok (.aload_n 0, 1) := by decide +kernel
theorem dX12_sequence_170 : decode cX12_sequence 170 = .ok (.getfield 535, 3) := by decide +kernel
theorem dX12_sequence_173 : decode cX12_sequence 173 = .ok (.iload_n 1, 1) := by decide +kernel
theorem dX12_sequence_174 : decode cX12_sequence 174 = .ok (.iconst 0, 1) := by decide +kernel
theorem dX12_sequence_175 : decode cX12_sequence 175 = .ok (.iastore, 1) := by decide +kernel
theorem dX12_sequence_176 : decode cX12_sequence 176 = .ok (.aload_n 0, 1) := by decide +kernel
theorem dX12_sequence_177 : decode cX12_sequence 177 = .ok (.getfield 532, 3) := by decide +kernel
theorem dX12_sequence_180 : decode cX12_sequence 180 = .ok (.iload_n 1, 1) := by decide +kernel
theorem dX12_sequence_181 : decode cX12_sequence 181 = .ok (.dup2, 1) := by decide +kernel
theorem dX12_sequence_182 : decode cX12_sequence 182 = .ok (.iaload, 1) := by decide +kernel
theorem dX12_sequence_183 : decode cX12_sequence 183 = .ok (.iconst 1, 1) := by decide +kernel
theorem dX12_sequence_184 : decode cX12_sequence 184 = .ok (.iadd, 1) := by decide +kernel
theorem dX12_sequence_185 : decode cX12_sequence 185 = .ok (.iastore, 1) := by decide +kernel
theorem dX12_sequence_186 : decode cX12_sequence 186 = .ok (.aload_n 0, 1) := by decide +kernel
theorem dX12_sequence_187 : decode cX12_sequence 187 = .ok (.getfield 532, 3) := by decide +kernel
theorem dX12_sequence_190 : decode cX12_sequence 190 = .ok (.iload_n 1, 1) := by decide +kernel
theorem dX12_sequence_191 : decode cX12_sequence 191 = .ok (.iaload, 1) := by decide +kernel
theorem dX12_sequence_192 : decode cX12_sequence 192 = .ok (.aload_n 0, 1) := by decide +kernel
theorem dX12_sequence_193 : decode cX12_sequence 193 = .ok (.getfield 342, 3) := by decide +kernel
theorem dX12_sequence_196 : decode cX12_sequence 196 = .ok (.iload_n 2, 1) := by decide +kernel
theorem dX12_sequence_197 : decode cX12_sequence 197 = .ok (.iaload, 1) := by decide +kernel
theorem dX12_sequence_198 : decode cX12_sequence 198 = .ok (.if_icmp .ne 5, 3) := by decide +kernel
theorem dX12_sequence_201 : decode cX12_sequence 201 = .ok (.iconst 0, 1) := by decide +kernel
theorem dX12_sequence_202 : decode cX12_sequence 202 = .ok (.ireturn, 1) := by decide +kernel
theorem dX12_sequence_203 : decode cX12_sequence 203 = .ok (.aload_n 0, 1) := by decide +kernel
theorem dX12_sequence_204 : decode cX12_sequence 204 = .ok (.iload_n 1, 1) := by decide +kernel
theorem dX12_sequence_205 : decode cX12_sequence 205 = .ok (.aload_n 0, 1) := by decide +kernel
theorem dX12_sequence_206 : decode cX12_sequence 206 = .ok (.getfield 532, 3) := by decide +kernel
theorem dX12_sequence_209 : decode cX12_sequence 209 = .ok (.iload_n 1, 1) := by decide +kernel
theorem dX12_sequence_210 : decode cX12_sequence 210 = .ok (.iaload, 1) := by decide +kernel
theorem dX12_sequence_211 : decode cX12_sequence 211 = .ok (.lload_n 3, 1) := by decide +kernel
theorem dX12_sequence_212 : decode cX12_sequence 212 = .ok (.invokevirtual 626, 3) := by decide +kernel
theorem dX12_sequence_215 : decode cX12_sequence 215 = .ok (.iconst 1, 1) := by decide +kernel
theorem dX12_sequence_216 : decode cX12_sequence 216 = .ok (.ireturn, 1) := by decide +kernel
theorem dX12_together_0 : decode cX12_together 0 = .ok (.aload_n 0, 1) := by decide +kernel
theorem dX12_together_1 : decode cX12_together 1 = .ok (.getfield 520, 3) := by decide +kernel
theorem dX12_together_4 : decode cX12_together 4 = .ok (.iload_n 1, 1) := by decide +kernel
theorem dX12_together_5 : decode cX12_together 5 = .ok (.iaload, 1) := by decide +kernel
theorem dX12_together_6 : decode cX12_together 6 = .ok (.iconst 1, 1) := by decide +kernel
theorem dX12_together_7 : decode cX12_together 7 = .ok (.if_icmp .ne 37, 3) := by decide +kernel
theorem dX12_together_10 : decode cX12_together 10 = .ok (.aload_n 0, 1) := by decide +kernel
theorem dX12_together_11 : decode cX12_together 11 = .ok (.aload_n 0, 1) := by decide +kernel
theorem dX12_together_12 : decode cX12_together 12 = .ok (.getfield 529, 3) := by decide +kernel
theorem dX12_together_15 : decode cX12_together 15 = .ok (.iload_n 1, 1) := by decide +kernel
theorem dX12_together_16 : decode cX12_together 16 = .ok (.iaload, 1) := by decide +kernel
theorem dX12_together_17 : decode cX12_together 17 = .ok (.aload_n 0, 1) := by decide +kernel
theorem dX12_together_18 : decode cX12_together 18 = .ok (.getfield 351, 3) := by decide +kernel
theorem dX12_together_21 : decode cX12_together 21 = .ok (.iload_n 2, 1) := by decide +kernel
theorem dX12_together_22 : decode cX12_together 22 = .ok (.iaload, 1) := by decide +kernel
theorem dX12_together_23 : decode cX12_together 23 = .ok (.i2l, 1) := by decide +kernel
theorem dX12_together_24 : decode cX12_together 24 = .ok (.aload_n 0, 1) := by decide +kernel
theorem dX12_together_25 : decode cX12_together 25 = .ok (.iload_n 1, 1) := by decide +kernel
theorem dX12_together_26 : decode cX12_together 26 = .ok (.invokevirtual 619, 3) := by decide +kernel
theorem dX12_together_29 : decode cX12_together 29 = .ok (.ldiv, 1) := by decide +kernel
theorem dX12_together_30 : decode cX12_together 30 = .ok (.lconst 0, 1) := by decide +kernel
theorem dX12_together_31 : decode cX12_together 31 = .ok (.invokevirtual 622, 3) := by decide +kernel
theorem dX12_together_34 : decode cX12_together 34 = .ok (.aload_n 0, 1) := by decide +kernel
theorem dX12_together_35 : decode cX12_together 35 = .ok (.getfield 532, 3) := by decide +kernel
theorem dX12_together_38 : decode cX12_together 38 = .ok (.iload_n 1, 1) := by decide +kernel
theorem dX12_together_39 : decode cX12_together 39 = .ok (.dup2, 1) := by decide +kernel
theorem dX12_together_40 : decode cX12_together 40 = .ok (.iaload, 1) := by decide +kernel
theorem dX12_together_41 : decode cX12_together 41 = .ok (.iconst 1, 1) := by decide +kernel
theorem dX12_together_42 : decode cX12_together 42 = .ok (.iadd, 1) := by decide +kernel
theorem dX12_together_43 : decode cX12_together 43 = .ok (.iastore, 1) := by decide +kernel
theorem dX12_together_44 : decode cX12_together 44 = .ok (.aload_n 0, 1) := by decide +kernel
theorem dX12_together_45 : decode cX12_together 45 = .ok (.getfield 532, 3) := by decide +kernel
theorem dX12_together_48 : decode cX12_together 48 = .ok (.iload_n 1, 1) := by decide +kernel
theorem dX12_together_49 : decode cX12_together 49 = .ok (.iaload, 1) := by decide +kernel
theorem dX12_together_50 : decode cX12_together 50 = .ok (.aload_n 0, 1) := by decide +kernel
theorem dX12_together_51 : decode cX12_together 51 = .ok (.getfield 342, 3) := by decide +kernel
theorem dX12_together_54 : decode cX12_together 54 = .ok (.iload_n 2, 1) := by decide +kernel
theorem dX12_together_55 : decode cX12_together 55 = .ok (.iaload, 1) := by decide +kernel
theorem dX12_together_56 : decode cX12_together 56 = .ok (.if_icmp .ge 17, 3) := by decide +kernel
theorem dX12_together_59 : decode cX12_together 59 = .ok (.aload_n 0, 1) := by decide +kernel
theorem dX12_together_60 : decode cX12_together 60 = .ok (.iload_n 1, 1) := by decide +kernel
theorem dX12_together_61 : decode cX12_together 61 = .ok (.aload_n 0, 1) := by decide +kernel
theorem dX12_together_62 : decode cX12_together 62 = .ok (.getfield 532, 3) := by decide +kernel
theorem dX12_together_65 : decode cX12_together 65 = .ok (.iload_n 1, 1) := by decide +kernel
theorem dX12_together_66 : decode cX12_together 66 = .ok (.iaload, 1) := by decide +kernel
theorem dX12_together_67 : decode cX12_together 67 = .ok (.lload_n 3, 1) := by decide +kernel
theorem dX12_together_68 : decode cX12_together 68 = .ok (.invokevirtual 626, 3) := by decide +kernel
theorem dX12_together_71 : decode cX12_together 71 = .ok (.iconst 1, 1) := by decide +kernel
theorem dX12_together_72 : decode cX12_together 72 = .ok (.ireturn, 1) := by decide +kernel
theorem dX12_together_73 : decode cX12_together 73 = .ok (.aload_n 0, 1) := by decide +kernel
theorem dX12_together_74 : decode cX12_together 74 = .ok (.aload_n 0, 1) := by decide +kernel
theorem dX12_together_75 : decode cX12_together 75 = .ok (.getfield 523, 3) := by decide +kernel
theorem dX12_together_78 : decode cX12_together 78 = .ok (.iload_n 1, 1) := by decide +kernel
theorem dX12_together_79 : decode cX12_together 79 = .ok (.iaload, 1) := by decide +kernel
theorem dX12_together_80 : decode cX12_together 80 = .ok (.invokevirtual 630, 3) := by decide +kernel
theorem dX12_together_83 : decode cX12_together 83 = .ok (.iconst 0, 1) := by decide +kernel
theorem dX12_together_84 : decode cX12_together 84 = .ok (.ireturn, 1) := by decide +kernel
theorem dX12_kidAt_0 : decode cX12_kidAt 0 = .ok (.lconst 0, 1) := by decide +kernel
theorem dX12_kidAt_1 : decode cX12_kidAt 1 = .ok (.lstore 4, 2) := by decide +kernel
theorem dX12_kidAt_3 : decode cX12_kidAt 3 = .ok (.iconst 0, 1) := by decide +kernel
theorem dX12_kidAt_4 : decode cX12_kidAt 4 = .ok (.istore 6, 2) := by decide +kernel
theorem dX12_kidAt_6 : decode cX12_kidAt 6 = .ok (.iconst 0, 1) := by decide +kernel
theorem dX12_kidAt_7 : decode cX12_kidAt 7 = .ok (.istore 7, 2) := by decide +kernel
theorem dX12_kidAt_9 : decode cX12_kidAt 9 = .ok (.iload 7, 2) := by decide +kernel
theorem dX12_kidAt_11 : decode cX12_kidAt 11 = .ok (.ifCond .ne 70, 3) := by decide +kernel
theorem dX12_kidAt_14 : decode cX12_kidAt 14 = .ok (.lload 4, 2) := by decide +kernel
theorem dX12_kidAt_16 : decode cX12_kidAt 16 = .ok (.aload_n 0, 1) := by decide +kernel
theorem dX12_kidAt_17 : decode cX12_kidAt 17 = .ok (.getfield 348, 3) := by decide +kernel
theorem dX12_kidAt_20 : decode cX12_kidAt 20 = .ok (.aload_n 0, 1) := by decide +kernel
theorem dX12_kidAt_21 : decode cX12_kidAt 21 = .ok (.getfield 339, 3) := by decide +kernel
theorem dX12_kidAt_24 : decode cX12_kidAt 24 = .ok (.iload_n 1, 1) := by decide +kernel
theorem dX12_kidAt_25 : decode cX12_kidAt 25 = .ok (.iaload, 1) := by decide +kernel
theorem dX12_kidAt_26 : decode cX12_kidAt 26 = .ok (.iload 6, 2) := by decide +kernel
theorem dX12_kidAt_28 : decode cX12_kidAt 28 = .ok (.iadd, 1) := by decide +kernel
theorem dX12_kidAt_29 : decode cX12_kidAt 29 = .ok (.iaload, 1) := by decide +kernel
theorem dX12_kidAt_30 : decode cX12_kidAt 30 = .ok (.bipush 32, 2) := by decide +kernel
theorem dX12_kidAt_32 : decode cX12_kidAt 32 = .ok (.irem, 1) := by decide +kernel
theorem dX12_kidAt_33 : decode cX12_kidAt 33 = .ok (.i2l, 1) := by decide +kernel
theorem dX12_kidAt_34 : decode cX12_kidAt 34 = .ok (.aload_n 0, 1) := by decide +kernel
theorem dX12_kidAt_35 : decode cX12_kidAt 35 = .ok (.getfield 348, 3) := by decide +kernel
theorem dX12_kidAt_38 : decode cX12_kidAt 38 = .ok (.aload_n 0, 1) := by decide +kernel
theorem dX12_kidAt_39 : decode cX12_kidAt 39 = .ok (.getfield 339, 3) := by decide +kernel
theorem dX12_kidAt_42 : decode cX12_kidAt 42 = .ok (.iload_n 1, 1) := by decide +kernel
theorem dX12_kidAt_43 : decode cX12_kidAt 43 = .ok (.iaload, 1) := by decide +kernel
theorem dX12_kidAt_44 : decode cX12_kidAt 44 = .ok (.iload 6, 2) := by decide +kernel
theorem dX12_kidAt_46 : decode cX12_kidAt 46 = .ok (.iadd, 1) := by decide +kernel
theorem dX12_kidAt_47 : decode cX12_kidAt 47 = .ok (.iaload, 1) := by decide +kernel
theorem dX12_kidAt_48 : decode cX12_kidAt 48 = .ok (.bipush 32, 2) := by decide +kernel
theorem dX12_kidAt_50 : decode cX12_kidAt 50 = .ok (.idiv, 1) := by decide +kernel
theorem dX12_kidAt_51 : decode cX12_kidAt 51 = .ok (.i2l, 1) := by decide +kernel
theorem dX12_kidAt_52 : decode cX12_kidAt 52 = .ok (.lmul, 1) := by decide +kernel
theorem dX12_kidAt_53 : decode cX12_kidAt 53 = .ok (.ladd, 1) := by decide +kernel
theorem dX12_kidAt_54 : decode cX12_kidAt 54 = .ok (.lstore 4, 2) := by decide +kernel
theorem dX12_kidAt_56 : decode cX12_kidAt 56 = .ok (.lload_n 2, 1) := by decide +kernel
theorem dX12_kidAt_57 : decode cX12_kidAt 57 = .ok (.lload 4, 2) := by decide +kernel
theorem dX12_kidAt_59 : decode cX12_kidAt 59 = .ok (.lcmp, 1) := by decide +kernel
theorem dX12_kidAt_60 : decode cX12_kidAt 60 = .ok (.ifCond .ge 7, 3) := by decide +kernel
theorem dX12_kidAt_63 : decode cX12_kidAt 63 = .ok (.iconst 1, 1) := by decide +kernel
theorem dX12_kidAt_64 : decode cX12_kidAt 64 = .ok (.goto 4, 3) := by decide +kernel
theorem dX12_kidAt_67 : decode cX12_kidAt 67 = .ok (.iconst 0, 1) := by decide +kernel
theorem dX12_kidAt_68 : decode cX12_kidAt 68 = .ok (.istore 7, 2) := by decide +kernel
theorem dX12_kidAt_70 : decode cX12_kidAt 70 = .ok (.iload 7, 2) := by decide +kernel
theorem dX12_kidAt_72 : decode cX12_kidAt 72 = .ok (.ifCond .ne (-63), 3) := by decide +kernel
theorem dX12_kidAt_75 : decode cX12_kidAt 75 = .ok (.iinc 6 1, 3) := by decide +kernel
theorem dX12_kidAt_78 : decode cX12_kidAt 78 = .ok (.goto (-69), 3) := by decide +kernel
theorem dX12_kidAt_81 : decode cX12_kidAt 81 = .ok (.iload 6, 2) := by decide +kernel
theorem dX12_kidAt_83 : decode cX12_kidAt 83 = .ok (.ireturn, 1) := by decide +kernel
theorem dX12_turn_0 : decode cX12_turn 0 = .ok (.aload_n 0, 1) := by decide +kernel
theorem dX12_turn_1 : decode cX12_turn 1 = .ok (.getfield 520, 3) := by decide +kernel
theorem dX12_turn_4 : decode cX12_turn 4 = .ok (.iload_n 1, 1) := by decide +kernel
theorem dX12_turn_5 : decode cX12_turn 5 = .ok (.iaload, 1) := by decide +kernel
theorem dX12_turn_6 : decode cX12_turn 6 = .ok (.ifCond .ne 46, 3) := by decide +kernel
theorem dX12_turn_9 : decode cX12_turn 9 = .ok (.aload_n 0, 1) := by decide +kernel
theorem dX12_turn_10 : decode cX12_turn 10 = .ok (.iload_n 2, 1) := by decide +kernel
theorem dX12_turn_11 : decode cX12_turn 11 = .ok (.invokevirtual 423, 3) := by decide +kernel
theorem dX12_turn_14 : decode cX12_turn 14 = .ok (.lstore 5, 2) := by decide +kernel
theorem dX12_turn_16 : decode cX12_turn 16 = .ok (.aload_n 0, 1) := by decide +kernel
theorem dX12_turn_17 : decode cX12_turn 17 = .ok (.getfield 541, 3) := by decide +kernel
theorem dX12_turn_20 : decode cX12_turn 20 = .ok (.iload_n 1, 1) := by decide +kernel
theorem dX12_turn_21 : decode cX12_turn 21 = .ok (.lload_n 3, 1) := by decide +kernel
theorem dX12_turn_22 : decode cX12_turn 22 = .ok (.lload 5, 2) := by decide +kernel
theorem dX12_turn_24 : decode cX12_turn 24 = .ok (.invokestatic 508, 3) := by decide +kernel
theorem dX12_turn_27 : decode cX12_turn 27 = .ok (.lastore, 1) := by decide +kernel
theorem dX12_turn_28 : decode cX12_turn 28 = .ok (.aload_n 0, 1) := by decide +kernel
theorem dX12_turn_29 : decode cX12_turn 29 = .ok (.iload_n 1, 1) := by decide +kernel
theorem dX12_turn_30 : decode cX12_turn 30 = .ok (.aload_n 0, 1) := by decide +kernel
theorem dX12_turn_31 : decode cX12_turn 31 = .ok (.iload_n 2, 1) := by decide +kernel
theorem dX12_turn_32 : decode cX12_turn 32 = .ok (.lload_n 3, 1) := by decide +kernel
theorem dX12_turn_33 : decode cX12_turn 33 = .ok (.lload 5, 2) := by decide +kernel
theorem dX12_turn_35 : decode cX12_turn 35 = .ok (.invokestatic 633, 3) := by decide +kernel
theorem dX12_turn_38 : decode cX12_turn 38 = .ok (.invokevirtual 636, 3) := by decide +kernel
theorem dX12_turn_41 : decode cX12_turn 41 = .ok (.aload_n 0, 1) := by decide +kernel
theorem dX12_turn_42 : decode cX12_turn 42 = .ok (.getfield 541, 3) := by decide +kernel
theorem dX12_turn_45 : decode cX12_turn 45 = .ok (.iload_n 1, 1) := by decide +kernel
theorem dX12_turn_46 : decode cX12_turn 46 = .ok (.laload, 1) := by decide +kernel
theorem dX12_turn_47 : decode cX12_turn 47 = .ok (.invokevirtual 626, 3) := by decide +kernel
theorem dX12_turn_50 : decode cX12_turn 50 = .ok (.iconst 1, 1) := by decide +kernel
theorem dX12_turn_51 : decode cX12_turn 51 = .ok (.ireturn, 1) := by decide +kernel
theorem dX12_turn_52 : decode cX12_turn 52 = .ok (.aload_n 0, 1) := by decide +kernel
theorem dX12_turn_53 : decode cX12_turn 53 = .ok (.getfield 351, 3) := by decide +kernel
theorem dX12_turn_56 : decode cX12_turn 56 = .ok (.iload_n 2, 1) := by decide +kernel
theorem dX12_turn_57 : decode cX12_turn 57 = .ok (.iaload, 1) := by decide +kernel
theorem dX12_turn_58 : decode cX12_turn 58 = .ok (.i2l, 1) := by decide +kernel
theorem dX12_turn_59 : decode cX12_turn 59 = .ok (.aload_n 0, 1) := by decide +kernel
