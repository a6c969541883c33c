theorem dX6_arg_103 : decode cX6_arg 103 = .ok (.getfield 81, 3) := by decide +kernel
theorem dX6_arg_106 : decode cX6_arg 106 = .ok (.aload_n 0, 1) := by decide +kernel
theorem dX6_arg_107 : decode cX6_arg 107 = .ok (.getfield 31, 3) := by decide +kernel
theorem dX6_arg_110 : decode cX6_arg 110 = .ok (.getfield 184, 3) := by decide +kernel
theorem dX6_arg_113 : decode cX6_arg 113 = .ok (.iconst 1, 1) := by decide +kernel
theorem dX6_arg_114 : decode cX6_arg 114 = .ok (.isub, 1) := by decide +kernel
theorem dX6_arg_115 : decode cX6_arg 115 = .ok (.invokevirtual 187, 3) := by decide +kernel
theorem dX6_arg_118 : decode cX6_arg 118 = .ok (.aload_n 0, 1) := by decide +kernel
theorem dX6_arg_119 : decode cX6_arg 119 = .ok (.getfield 44, 3) := by decide +kernel
theorem dX6_arg_122 : decode cX6_arg 122 = .ok (.invokevirtual 191, 3) := by decide +kernel
theorem dX6_arg_125 : decode cX6_arg 125 = .ok (.istore_n 2, 1) := by decide +kernel
theorem dX6_arg_126 : decode cX6_arg 126 = .ok (.aload_n 0, 1) := by decide +kernel
theorem dX6_arg_127 : decode cX6_arg 127 = .ok (.getfield 44, 3) := by decide +kernel
theorem dX6_arg_130 : decode cX6_arg 130 = .ok (.invokevirtual 194, 3) := by decide +kernel
theorem dX6_arg_133 : decode cX6_arg 133 = .ok (.aload_n 0, 1) := by decide +kernel
theorem dX6_arg_134 : decode cX6_arg 134 = .ok (.getfield 31, 3) := by decide +kernel
theorem dX6_arg_137 : decode cX6_arg 137 = .ok (.invokevirtual 88, 3) := by decide +kernel
theorem dX6_arg_140 : decode cX6_arg 140 = .ok (.goto 21, 3) := by decide +kernel
theorem dX6_arg_143 : decode cX6_arg 143 = .ok (.aload_n 0, 1) := by decide +kernel
theorem dX6_arg_144 : decode cX6_arg 144 = .ok (.getfield 31, 3) := by decide +kernel
theorem dX6_arg_147 : decode cX6_arg 147 = .ok (.invokevirtual 88, 3) := by decide +kernel
theorem dX6_arg_150 : decode cX6_arg 150 = .ok (.aload_n 0, 1) := by decide +kernel
theorem dX6_arg_151 : decode cX6_arg 151 = .ok (.invokevirtual 75, 3) := by decide +kernel
theorem dX6_arg_154 : decode cX6_arg 154 = .ok (.istore_n 2, 1) := by decide +kernel
theorem dX6_arg_155 : decode cX6_arg 155 = .ok (.aload_n 0, 1) := by decide +kernel
theorem dX6_arg_156 : decode cX6_arg 156 = .ok (.bipush 41, 2) := by decide +kernel
theorem dX6_arg_158 : decode cX6_arg 158 = .ok (.invokevirtual 109, 3) := by decide +kernel
theorem dX6_arg_161 : decode cX6_arg 161 = .ok (.aload_n 0, 1) := by decide +kernel
theorem dX6_arg_162 : decode cX6_arg 162 = .ok (.getfield 31, 3) := by decide +kernel
theorem dX6_arg_165 : decode cX6_arg 165 = .ok (.dup, 1) := by decide +kernel
theorem dX6_arg_166 : decode cX6_arg 166 = .ok (.getfield 197, 3) := by decide +kernel
theorem dX6_arg_169 : decode cX6_arg 169 = .ok (.iconst 1, 1) := by decide +kernel
theorem dX6_arg_170 : decode cX6_arg 170 = .ok (.isub, 1) := by decide +kernel
theorem dX6_arg_171 : decode cX6_arg 171 = .ok (.putfield 197, 3) := by decide +kernel
theorem dX6_arg_174 : decode cX6_arg 174 = .ok (.iload_n 2, 1) := by decide +kernel
theorem dX6_arg_175 : decode cX6_arg 175 = .ok (.ireturn, 1) := by decide +kernel
theorem dX6_patternName_0 : decode cX6_patternName 0 = .ok (.aload_n 0, 1) := by decide +kernel
theorem dX6_patternName_1 : decode cX6_patternName 1 = .ok (.aload_n 0, 1) := by decide +kernel
theorem dX6_patternName_2 : decode cX6_patternName 2 = .ok (.getfield 31, 3) := by decide +kernel
theorem dX6_patternName_5 : decode cX6_patternName 5 = .ok (.getfield 91, 3) := by decide +kernel
theorem dX6_patternName_8 : decode cX6_patternName 8 = .ok (.invokevirtual 165, 3) := by decide +kernel
theorem dX6_patternName_11 : decode cX6_patternName 11 = .ok (.istore_n 1, 1) := by decide +kernel
theorem dX6_patternName_12 : decode cX6_patternName 12 = .ok (.iload_n 1, 1) := by decide +kernel
theorem dX6_patternName_13 : decode cX6_patternName 13 = .ok (.iconst 1, 1) := by decide +kernel
theorem dX6_patternName_14 : decode cX6_patternName 14 = .ok (.if_icmp .eq 25, 3) := by decide +kernel
theorem dX6_patternName_17 : decode cX6_patternName 17 = .ok (.iload_n 1, 1) := by decide +kernel
theorem dX6_patternName_18 : decode cX6_patternName 18 = .ok (.iconst 3, 1) := by decide +kernel
theorem dX6_patternName_19 : decode cX6_patternName 19 = .ok (.if_icmp .eq 20, 3) := by decide +kernel
theorem dX6_patternName_22 : decode cX6_patternName 22 = .ok (.aload_n 0, 1) := by decide +kernel
theorem dX6_patternName_23 : decode cX6_patternName 23 = .ok (.getfield 31, 3) := by decide +kernel
theorem dX6_patternName_26 : decode cX6_patternName 26 = .ok (.iconst 2, 1) := by decide +kernel
theorem dX6_patternName_27 : decode cX6_patternName 27 = .ok (.aload_n 0, 1) := by decide +kernel
theorem dX6_patternName_28 : decode cX6_patternName 28 = .ok (.getfield 31, 3) := by decide +kernel
theorem dX6_patternName_31 : decode cX6_patternName 31 = .ok (.getfield 81, 3) := by decide +kernel
theorem dX6_patternName_34 : decode cX6_patternName 34 = .ok (.invokevirtual 84, 3) := by decide +kernel
theorem dX6_patternName_37 : decode cX6_patternName 37 = .ok (.iconst 0, 1) := by decide +kernel
theorem dX6_patternName_38 : decode cX6_patternName 38 = .ok (.ireturn, 1) := by decide +kernel
theorem dX6_patternName_39 : decode cX6_patternName 39 = .ok (.aload_n 0, 1) := by decide +kernel
theorem dX6_patternName_40 : decode cX6_patternName 40 = .ok (.getfield 31, 3) := by decide +kernel
theorem dX6_patternName_43 : decode cX6_patternName 43 = .ok (.invokevirtual 88, 3) := by decide +kernel
theorem dX6_patternName_46 : decode cX6_patternName 46 = .ok (.iload_n 1, 1) := by decide +kernel
theorem dX6_patternName_47 : decode cX6_patternName 47 = .ok (.iconst 1, 1) := by decide +kernel
theorem dX6_patternName_48 : decode cX6_patternName 48 = .ok (.if_icmp .ne 10, 3) := by decide +kernel
theorem dX6_patternName_51 : decode cX6_patternName 51 = .ok (.aload_n 0, 1) := by decide +kernel
theorem dX6_patternName_52 : decode cX6_patternName 52 = .ok (.getfield 24, 3) := by decide +kernel
theorem dX6_patternName_55 : decode cX6_patternName 55 = .ok (.goto 17, 3) := by decide +kernel
theorem dX6_patternName_58 : decode cX6_patternName 58 = .ok (.aload_n 0, 1) := by decide +kernel
theorem dX6_patternName_59 : decode cX6_patternName 59 = .ok (.getfield 20, 3) := by decide +kernel
theorem dX6_patternName_62 : decode cX6_patternName 62 = .ok (.aload_n 0, 1) := by decide +kernel
theorem dX6_patternName_63 : decode cX6_patternName 63 = .ok (.getfield 28, 3) := by decide +kernel
theorem dX6_patternName_66 : decode cX6_patternName 66 = .ok (.getfield 200, 3) := by decide +kernel
theorem dX6_patternName_69 : decode cX6_patternName 69 = .ok (.invokevirtual 204, 3) := by decide +kernel
theorem dX6_patternName_72 : decode cX6_patternName 72 = .ok (.ireturn, 1) := by decide +kernel
theorem dX6_named_0 : decode cX6_named 0 = .ok (.new 173, 3) := by decide +kernel
theorem dX6_named_3 : decode cX6_named 3 = .ok (.dup, 1) := by decide +kernel
theorem dX6_named_4 : decode cX6_named 4 = .ok (.iload_n 1, 1) := by decide +kernel
theorem dX6_named_5 : decode cX6_named 5 = .ok (.iconst 2, 1) := by decide +kernel
theorem dX6_named_6 : decode cX6_named 6 = .ok (.if_icmp .ne 10, 3) := by decide +kernel
theorem dX6_named_9 : decode cX6_named 9 = .ok (.aload_n 0, 1) := by decide +kernel
theorem dX6_named_10 : decode cX6_named 10 = .ok (.getfield 24, 3) := by decide +kernel
theorem dX6_named_13 : decode cX6_named 13 = .ok (.goto 5, 3) := by decide +kernel
theorem dX6_named_16 : decode cX6_named 16 = .ok (.bipush 22, 2) := by decide +kernel
theorem dX6_named_18 : decode cX6_named 18 = .ok (.aload_n 0, 1) := by decide +kernel
theorem dX6_named_19 : decode cX6_named 19 = .ok (.getfield 31, 3) := by decide +kernel
theorem dX6_named_22 : decode cX6_named 22 = .ok (.getfield 81, 3) := by decide +kernel
theorem dX6_named_25 : decode cX6_named 25 = .ok (.invokespecial 208, 3) := by decide +kernel
theorem dX6_named_28 : decode cX6_named 28 = .ok (.astore_n 2, 1) := by decide +kernel
theorem dX6_named_29 : decode cX6_named 29 = .ok (.iload_n 1, 1) := by decide +kernel
theorem dX6_named_30 : decode cX6_named 30 = .ok (.iconst 2, 1) := by decide +kernel
theorem dX6_named_31 : decode cX6_named 31 = .ok (.if_icmp .ne 17, 3) := by decide +kernel
theorem dX6_named_34 : decode cX6_named 34 = .ok (.aload_n 0, 1) := by decide +kernel
theorem dX6_named_35 : decode cX6_named 35 = .ok (.getfield 31, 3) := by decide +kernel
theorem dX6_named_38 : decode cX6_named 38 = .ok (.invokevirtual 88, 3) := by decide +kernel
theorem dX6_named_41 : decode cX6_named 41 = .ok (.aload_n 0, 1) := by decide +kernel
theorem dX6_named_42 : decode cX6_named 42 = .ok (.aload_n 2, 1) := by decide +kernel
theorem dX6_named_43 : decode cX6_named 43 = .ok (.invokevirtual 209, 3) := by decide +kernel
theorem dX6_named_46 : decode cX6_named 46 = .ok (.aload_n 2, 1) := by decide +kernel
theorem dX6_named_47 : decode cX6_named 47 = .ok (.areturn, 1) := by decide +kernel
theorem dX6_named_48 : decode cX6_named 48 = .ok (.aload_n 2, 1) := by decide +kernel
theorem dX6_named_49 : decode cX6_named 49 = .ok (.aload_n 0, 1) := by decide +kernel
theorem dX6_named_50 : decode cX6_named 50 = .ok (.getfield 28, 3) := by decide +kernel
theorem dX6_named_53 : decode cX6_named 53 = .ok (.putfield 213, 3) := by decide +kernel
theorem dX6_named_56 : decode cX6_named 56 = .ok (.aload_n 0, 1) := by decide +kernel
theorem dX6_named_57 : decode cX6_named 57 = .ok (.getfield 28, 3) := by decide +kernel
theorem dX6_named_60 : decode cX6_named 60 = .ok (.getfield 103, 3) := by decide +kernel
theorem dX6_named_63 : decode cX6_named 63 = .ok (.iconst 1, 1) := by decide +kernel
theorem dX6_named_64 : decode cX6_named 64 = .ok (.isub, 1) := by decide +kernel
theorem dX6_named_65 : decode cX6_named 65 = .ok (.istore_n 3, 1) := by decide +kernel
theorem dX6_named_66 : decode cX6_named 66 = .ok (.aload_n 0, 1) := by decide +kernel
theorem dX6_named_67 : decode cX6_named 67 = .ok (.getfield 31, 3) := by decide +kernel
theorem dX6_named_70 : decode cX6_named 70 = .ok (.invokevirtual 88, 3) := by decide +kernel
theorem dX6_named_73 : decode cX6_named 73 = .ok (.iconst 0, 1) := by decide +kernel
theorem dX6_named_74 : decode cX6_named 74 = .ok (.istore 4, 2) := by decide +kernel
theorem dX6_named_76 : decode cX6_named 76 = .ok (.iload 4, 2) := by decide +kernel
theorem dX6_named_78 : decode cX6_named 78 = .ok (.iload_n 3, 1) := by decide +kernel
theorem dX6_named_79 : decode cX6_named 79 = .ok (.if_icmp .ge 27, 3) := by decide +kernel
theorem dX6_named_82 : decode cX6_named 82 = .ok (.aload_n 0, 1) := by decide +kernel
theorem dX6_named_83 : decode cX6_named 83 = .ok (.getfield 31, 3) := by decide +kernel
theorem dX6_named_86 : decode cX6_named 86 = .ok (.getfield 72, 3) := by decide +kernel
theorem dX6_named_89 : decode cX6_named 89 = .ok (.ifCond .ne 17, 3) := by decide +kernel
theorem dX6_named_92 : decode cX6_named 92 = .ok (.aload_n 2, 1) := by decide +kernel
theorem dX6_named_93 : decode cX6_named 93 = .ok (.aload_n 0, 1) := by decide +kernel
theorem dX6_named_94 : decode cX6_named 94 = .ok (.invokevirtual 162, 3) := by decide +kernel
theorem dX6_named_97 : decode cX6_named 97 = .ok (.invokevirtual 216, 3) := by decide +kernel
theorem dX6_named_100 : decode cX6_named 100 = .ok (.iinc 4 1, 3) := by decide +kernel
theorem dX6_named_103 : decode cX6_named 103 = .ok (.goto (-27), 3) := by decide +kernel
theorem dX6_named_106 : decode cX6_named 106 = .ok (.aload_n 2, 1) := by decide +kernel
theorem dX6_named_107 : decode cX6_named 107 = .ok (.areturn, 1) := by decide +kernel
theorem dX6_wants_0 : decode cX6_wants 0 = .ok (.aload_n 1, 1) := by decide +kernel
theorem dX6_wants_1 : decode cX6_wants 1 = .ok (.getfield 218, 3) := by decide +kernel
theorem dX6_wants_4 : decode cX6_wants 4 = .ok (.iconst 4, 1) := by decide +kernel
theorem dX6_wants_5 : decode cX6_wants 5 = .ok (.imul, 1) := by decide +kernel
theorem dX6_wants_6 : decode cX6_wants 6 = .ok (.istore_n 2, 1) := by decide +kernel
theorem dX6_wants_7 : decode cX6_wants 7 = .ok (.iconst 0, 1) := by decide +kernel
theorem dX6_wants_8 : decode cX6_wants 8 = .ok (.istore_n 3, 1) := by decide +kernel
theorem dX6_wants_9 : decode cX6_wants 9 = .ok (.iload_n 3, 1) := by decide +kernel
theorem dX6_wants_10 : decode cX6_wants 10 = .ok (.iconst 3, 1) := by decide +kernel
theorem dX6_wants_11 : decode cX6_wants 11 = .ok (.if_icmp .ge 142, 3) := by decide +kernel
theorem dX6_wants_14 : decode cX6_wants 14 = .ok (.aload_n 0, 1) := by decide +kernel
theorem dX6_wants_15 : decode cX6_wants 15 = .ok (.getfield 31, 3) := by decide +kernel
theorem dX6_wants_18 : decode cX6_wants 18 = .ok (.getfield 72, 3) := by decide +kernel
theorem dX6_wants_21 : decode cX6_wants 21 = .ok (.ifCond .ne 132, 3) := by decide +kernel
theorem dX6_wants_24 : decode cX6_wants 24 = .ok (.ldc 219, 2) := by decide +kernel
theorem dX6_wants_26 : decode cX6_wants 26 = .ok (.iload_n 2, 1) := by decide +kernel
theorem dX6_wants_27 : decode cX6_wants 27 = .ok (.iload_n 3, 1) := by decide +kernel
theorem dX6_wants_28 : decode cX6_wants 28 = .ok (.iadd, 1) := by decide +kernel
theorem dX6_wants_29 : decode cX6_wants 29 = .ok (.iconst 1, 1) := by decide +kernel
theorem dX6_wants_30 : decode cX6_wants 30 = .ok (.iadd, 1) := by decide +kernel
theorem dX6_wants_31 : decode cX6_wants 31 = .ok (.invokevirtual 56, 3) := by decide +kernel
theorem dX6_wants_34 : decode cX6_wants 34 = .ok (.bipush 32, 2) := by decide +kernel
theorem dX6_wants_36 : decode cX6_wants 36 = .ok (.if_icmp .ne 7, 3) := by decide +kernel
theorem dX6_wants_39 : decode cX6_wants 39 = .ok (.iconst 1, 1) := by decide +kernel
theorem dX6_wants_40 : decode cX6_wants 40 = .ok (.goto 4, 3) := by decide +kernel
theorem dX6_wants_43 : decode cX6_wants 43 = .ok (.iconst 0, 1) := by decide +kernel
theorem dX6_wants_44 : decode cX6_wants 44 = .ok (.istore 4, 2) := by decide +kernel
theorem dX6_wants_46 : decode cX6_wants 46 = .ok (.ldc 219, 2) := by decide +kernel
theorem dX6_wants_48 : decode cX6_wants 48 = .ok (.iload_n 2, 1) := by decide +kernel
theorem dX6_wants_49 : decode cX6_wants 49 = .ok (.iload_n 3, 1) := by decide +kernel
theorem dX6_wants_50 : decode cX6_wants 50 = .ok (.iadd, 1) := by decide +kernel
theorem dX6_wants_51 : decode cX6_wants 51 = .ok (.invokevirtual 56, 3) := by decide +kernel
theorem dX6_wants_54 : decode cX6_wants 54 = .ok (.lookupswitch 79 #[(65, 34), (70, 68), (78, 51)], 34) := by decide +kernel
theorem dX6_wants_88 : decode cX6_wants 88 = .ok (.aload_n 0, 1) := by decide +kernel
theorem dX6_wants_89 : decode cX6_wants 89 = .ok (.aload_n 1, 1) := by decide +kernel
theorem dX6_wants_90 : decode cX6_wants 90 = .ok (.iload_n 3, 1) := by decide +kernel
theorem dX6_wants_91 : decode cX6_wants 91 = .ok (.ifCond .ne 7, 3) := by decide +kernel
theorem dX6_wants_94 : decode cX6_wants 94 = .ok (.iconst 1, 1) := by decide +kernel
theorem dX6_wants_95 : decode cX6_wants 95 = .ok (.goto 4, 3) := by decide +kernel
theorem dX6_wants_98 : decode cX6_wants 98 = .ok (.iconst 0, 1) := by decide +kernel
theorem dX6_wants_99 : decode cX6_wants 99 = .ok (.invokevirtual 221, 3) := by decide +kernel
theorem dX6_wants_102 : decode cX6_wants 102 = .ok (.goto 45, 3) := by decide +kernel
theorem dX6_wants_105 : decode cX6_wants 105 = .ok (.aload_n 0, 1) := by decide +kernel
theorem dX6_wants_106 : decode cX6_wants 106 = .ok (.aload_n 1, 1) := by decide +kernel
theorem dX6_wants_107 : decode cX6_wants 107 = .ok (.iload_n 3, 1) := by decide +kernel
theorem dX6_wants_108 : decode cX6_wants 108 = .ok (.ifCond .ne 7, 3) := by decide +kernel
theorem dX6_wants_111 : decode cX6_wants 111 = .ok (.iconst 1, 1) := by decide +kernel
theorem dX6_wants_112 : decode cX6_wants 112 = .ok (.goto 4, 3) := by decide +kernel
theorem dX6_wants_115 : decode cX6_wants 115 = .ok (.iconst 0, 1) := by decide +kernel
theorem dX6_wants_116 : decode cX6_wants 116 = .ok (.invokevirtual 225, 3) := by decide +kernel
theorem dX6_wants_119 : decode cX6_wants 119 = .ok (.goto 28, 3) := by decide +kernel
theorem dX6_wants_122 : decode cX6_wants 122 = .ok (.aload_n 1, 1) := by decide +kernel
theorem dX6_wants_123 : decode cX6_wants 123 = .ok (.aload_n 0, 1) := by decide +kernel
theorem dX6_wants_124 : decode cX6_wants 124 = .ok (.invokevirtual 228, 3) := by decide +kernel
theorem dX6_wants_127 : decode cX6_wants 127 = .ok (.putfield 232, 3) := by decide +kernel
theorem dX6_wants_130 : decode cX6_wants 130 = .ok (.goto 17, 3) := by decide +kernel
theorem dX6_wants_133 : decode cX6_wants 133 = .ok (.iload 4, 2) := by decide +kernel
theorem dX6_wants_135 : decode cX6_wants 135 = .ok (.ifCond .eq 4, 3) := by decide +kernel
theorem dX6_wants_138 : decode cX6_wants 138 = .ok (.return_, 1) := by decide +kernel
theorem dX6_wants_139 : decode cX6_wants 139 = .ok (.aload_n 1, 1) := by decide +kernel
theorem dX6_wants_140 : decode cX6_wants 140 = .ok (.aload_n 0, 1) := by decide +kernel
theorem dX6_wants_141 : decode cX6_wants 141 = .ok (.invokevirtual 162, 3) := by decide +kernel
theorem dX6_wants_144 : decode cX6_wants 144 = .ok (.invokevirtual 216, 3) := by decide +kernel
theorem dX6_wants_147 : decode cX6_wants 147 = .ok (.iinc 3 1, 3) := by decide +kernel
theorem dX6_wants_150 : decode cX6_wants 150 = .ok (.goto (-141), 3) := by decide +kernel
theorem dX6_wants_153 : decode cX6_wants 153 = .ok (.return_, 1) := by decide +kernel
theorem dX6_fraction_0 : decode cX6_fraction 0 = .ok (.aload_n 0, 1) := by decide +kernel
theorem dX6_fraction_1 : decode cX6_fraction 1 = .ok (.getfield 31, 3) := by decide +kernel
theorem dX6_fraction_4 : decode cX6_fraction 4 = .ok (.getfield 66, 3) := by decide +kernel
theorem dX6_fraction_7 : decode cX6_fraction 7 = .ok (.iconst 2, 1) := by decide +kernel
theorem dX6_fraction_8 : decode cX6_fraction 8 = .ok (.if_icmp .eq 30, 3) := by decide +kernel
theorem dX6_fraction_11 : decode cX6_fraction 11 = .ok (.aload_n 0, 1) := by decide +kernel
theorem dX6_fraction_12 : decode cX6_fraction 12 = .ok (.getfield 31, 3) := by decide +kernel
theorem dX6_fraction_15 : decode cX6_fraction 15 = .ok (.getfield 66, 3) := by decide +kernel
theorem dX6_fraction_18 : decode cX6_fraction 18 = .ok (.iconst 3, 1) := by decide +kernel
theorem dX6_fraction_19 : decode cX6_fraction 19 = .ok (.if_icmp .eq 19, 3) := by decide +kernel
theorem dX6_fraction_22 : decode cX6_fraction 22 = .ok (.aload_n 0, 1) := by decide +kernel
theorem dX6_fraction_23 : decode cX6_fraction 23 = .ok (.getfield 31, 3) := by decide +kernel
theorem dX6_fraction_26 : decode cX6_fraction 26 = .ok (.iconst 1, 1) := by decide +kernel
theorem dX6_fraction_27 : decode cX6_fraction 27 = .ok (.aload_n 0, 1) := by decide +kernel
theorem dX6_fraction_28 : decode cX6_fraction 28 = .ok (.getfield 31, 3) := by decide +kernel
theorem dX6_fraction_31 : decode cX6_fraction 31 = .ok (.getfield 81, 3) := by decide +kernel
theorem dX6_fraction_34 : decode cX6_fraction 34 = .ok (.invokevirtual 84, 3) := by decide +kernel
theorem dX6_fraction_37 : decode cX6_fraction 37 = .ok (.return_, 1) := by decide +kernel
theorem dX6_fraction_38 : decode cX6_fraction 38 = .ok (.aload_n 0, 1) := by decide +kernel
theorem dX6_fraction_39 : decode cX6_fraction 39 = .ok (.getfield 31, 3) := by decide +kernel
theorem dX6_fraction_42 : decode cX6_fraction 42 = .ok (.getfield 235, 3) := by decide +kernel
theorem dX6_fraction_45 : decode cX6_fraction 45 = .ok (.istore_n 3, 1) := by decide +kernel
theorem dX6_fraction_46 : decode cX6_fraction 46 = .ok (.aload_n 0, 1) := by decide +kernel
theorem dX6_fraction_47 : decode cX6_fraction 47 = .ok (.getfield 31, 3) := by decide +kernel
theorem dX6_fraction_50 : decode cX6_fraction 50 = .ok (.getfield 238, 3) := by decide +kernel
theorem dX6_fraction_53 : decode cX6_fraction 53 = .ok (.istore 4, 2) := by decide +kernel
theorem dX6_fraction_55 : decode cX6_fraction 55 = .ok (.aload_n 1, 1) := by decide +kernel
theorem dX6_fraction_56 : decode cX6_fraction 56 = .ok (.getfield 218, 3) := by decide +kernel
theorem dX6_fraction_59 : decode cX6_fraction 59 = .ok (.ifCond .eq 11, 3) := by decide +kernel
theorem dX6_fraction_62 : decode cX6_fraction 62 = .ok (.aload_n 1, 1) := by decide +kernel
theorem dX6_fraction_63 : decode cX6_fraction 63 = .ok (.getfield 218, 3) := by decide +kernel
theorem dX6_fraction_66 : decode cX6_fraction 66 = .ok (.iconst 1, 1) := by decide +kernel
theorem dX6_fraction_67 : decode cX6_fraction 67 = .ok (.if_icmp .ne 7, 3) := by decide +kernel
theorem dX6_fraction_70 : decode cX6_fraction 70 = .ok (.iconst 1, 1) := by decide +kernel
theorem dX6_fraction_71 : decode cX6_fraction 71 = .ok (.goto 4, 3) := by decide +kernel
theorem dX6_fraction_74 : decode cX6_fraction 74 = .ok (.iconst 0, 1) := by decide +kernel
theorem dX6_fraction_75 : decode cX6_fraction 75 = .ok (.istore 5, 2) := by decide +kernel
theorem dX6_fraction_77 : decode cX6_fraction 77 = .ok (.aload_n 1, 1) := by decide +kernel
theorem dX6_fraction_78 : decode cX6_fraction 78 = .ok (.getfield 218, 3) := by decide +kernel
theorem dX6_fraction_81 : decode cX6_fraction 81 = .ok (.bipush 19, 2) := by decide +kernel
theorem dX6_fraction_83 : decode cX6_fraction 83 = .ok (.if_icmp .eq 12, 3) := by decide +kernel
theorem dX6_fraction_86 : decode cX6_fraction 86 = .ok (.aload_n 1, 1) := by decide +kernel
theorem dX6_fraction_87 : decode cX6_fraction 87 = .ok (.getfield 218, 3) := by decide +kernel
theorem dX6_fraction_90 : decode cX6_fraction 90 = .ok (.bipush 20, 2) := by decide +kernel
theorem dX6_fraction_92 : decode cX6_fraction 92 = .ok (.if_icmp .ne 7, 3) := by decide +kernel
theorem dX6_fraction_95 : decode cX6_fraction 95 = .ok (.iconst 1, 1) := by decide +kernel
theorem dX6_fraction_96 : decode cX6_fraction 96 = .ok (.goto 4, 3) := by decide +kernel
theorem dX6_fraction_99 : decode cX6_fraction 99 = .ok (.iconst 0, 1) := by decide +kernel
theorem dX6_fraction_100 : decode cX6_fraction 100 = .ok (.istore 6, 2) := by decide +kernel
theorem dX6_fraction_102 : decode cX6_fraction 102 = .ok (.iload_n 3, 1) := by decide +kernel
theorem dX6_fraction_103 : decode cX6_fraction 103 = .ok (.bipush 64, 2) := by decide +kernel
theorem dX6_fraction_105 : decode cX6_fraction 105 = .ok (.if_icmp .gt 39, 3) := by decide +kernel
theorem dX6_fraction_108 : decode cX6_fraction 108 = .ok (.iload 4, 2) := by decide +kernel
theorem dX6_fraction_110 : decode cX6_fraction 110 = .ok (.bipush 64, 2) := by decide +kernel
theorem dX6_fraction_112 : decode cX6_fraction 112 = .ok (.if_icmp .gt 32, 3) := by decide +kernel
theorem dX6_fraction_115 : decode cX6_fraction 115 = .ok (.iload 4, 2) := by decide +kernel
theorem dX6_fraction_117 : decode cX6_fraction 117 = .ok (.ifCond .le 27, 3) := by decide +kernel
theorem dX6_fraction_120 : decode cX6_fraction 120 = .ok (.iload 5, 2) := by decide +kernel
theorem dX6_fraction_122 : decode cX6_fraction 122 = .ok (.ifCond .eq 7, 3) := by decide +kernel
theorem dX6_fraction_125 : decode cX6_fraction 125 = .ok (.iload_n 3, 1) := by decide +kernel
theorem dX6_fraction_126 : decode cX6_fraction 126 = .ok (.ifCond .eq 18, 3) := by decide +kernel
theorem dX6_fraction_129 : decode cX6_fraction 129 = .ok (.iload 6, 2) := by decide +kernel
theorem dX6_fraction_131 : decode cX6_fraction 131 = .ok (.ifCond .eq 9, 3) := by decide +kernel
theorem dX6_fraction_134 : decode cX6_fraction 134 = .ok (.iload_n 3, 1) := by decide +kernel
theorem dX6_fraction_135 : decode cX6_fraction 135 = .ok (.iload 4, 2) := by decide +kernel
theorem dX6_fraction_137 : decode cX6_fraction 137 = .ok (.if_icmp .gt 7, 3) := by decide +kernel
theorem dX6_fraction_140 : decode cX6_fraction 140 = .ok (.iconst 1, 1) := by decide +kernel
theorem dX6_fraction_141 : decode cX6_fraction 141 = .ok (.goto 4, 3) := by decide +kernel
theorem dX6_fraction_144 : decode cX6_fraction 144 = .ok (.iconst 0, 1) := by decide +kernel
theorem dX6_fraction_145 : decode cX6_fraction 145 = .ok (.istore 7, 2) := by decide +kernel
theorem dX6_fraction_147 : decode cX6_fraction 147 = .ok (.iload 7, 2) := by decide +kernel
theorem dX6_fraction_149 : decode cX6_fraction 149 = .ok (.ifCond .eq 23, 3) := by decide +kernel
theorem dX6_fraction_152 : decode cX6_fraction 152 = .ok (.iload_n 2, 1) := by decide +kernel
theorem dX6_fraction_153 : decode cX6_fraction 153 = .ok (.ifCond .ne 35, 3) := by decide +kernel
theorem dX6_fraction_156 : decode cX6_fraction 156 = .ok (.iload_n 3, 1) := by decide +kernel
theorem dX6_fraction_157 : decode cX6_fraction 157 = .ok (.aload_n 1, 1) := by decide +kernel
theorem dX6_fraction_158 : decode cX6_fraction 158 = .ok (.getfield 241, 3) := by decide +kernel
theorem dX6_fraction_161 : decode cX6_fraction 161 = .ok (.imul, 1) := by decide +kernel
theorem dX6_fraction_162 : decode cX6_fraction 162 = .ok (.aload_n 1, 1) := by decide +kernel
theorem dX6_fraction_163 : decode cX6_fraction 163 = .ok (.getfield 244, 3) := by decide +kernel
theorem dX6_fraction_166 : decode cX6_fraction 166 = .ok (.iload 4, 2) := by decide +kernel
theorem dX6_fraction_168 : decode cX6_fraction 168 = .ok (.imul, 1) := by decide +kernel
theorem dX6_fraction_169 : decode cX6_fraction 169 = .ok (.if_icmp .gt 19, 3) := by decide +kernel
theorem dX6_fraction_172 : decode cX6_fraction 172 = .ok (.aload_n 0, 1) := by decide +kernel
theorem dX6_fraction_173 : decode cX6_fraction 173 = .ok (.getfield 31, 3) := by decide +kernel
theorem dX6_fraction_176 : decode cX6_fraction 176 = .ok (.iconst 3, 1) := by decide +kernel
theorem dX6_fraction_177 : decode cX6_fraction 177 = .ok (.aload_n 0, 1) := by decide +kernel
theorem dX6_fraction_178 : decode cX6_fraction 178 = .ok (.getfield 31, 3) := by decide +kernel
theorem dX6_fraction_181 : decode cX6_fraction 181 = .ok (.getfield 81, 3) := by decide +kernel
theorem dX6_fraction_184 : decode cX6_fraction 184 = .ok (.invokevirtual 84, 3) := by decide +kernel
theorem dX6_fraction_187 : decode cX6_fraction 187 = .ok (.return_, 1) := by decide +kernel
theorem dX6_fraction_188 : decode cX6_fraction 188 = .ok (.iload_n 3, 1) := by decide +kernel
theorem dX6_fraction_189 : decode cX6_fraction 189 = .ok (.i2l, 1) := by decide +kernel
theorem dX6_fraction_190 : decode cX6_fraction 190 = .ok (.iload 4, 2) := by decide +kernel
theorem dX6_fraction_192 : decode cX6_fraction 192 = .ok (.i2l, 1) := by decide +kernel
theorem dX6_fraction_193 : decode cX6_fraction 193 = .ok (.invokestatic 247, 3) := by decide +kernel
theorem dX6_fraction_196 : decode cX6_fraction 196 = .ok (.l2i, 1) := by decide +kernel
theorem dX6_fraction_197 : decode cX6_fraction 197 = .ok (.istore 8, 2) := by decide +kernel
theorem dX6_fraction_199 : decode cX6_fraction 199 = .ok (.iload_n 2, 1) := by decide +kernel
theorem dX6_fraction_200 : decode cX6_fraction 200 = .ok (.ifCond .eq 23, 3) := by decide +kernel
theorem dX6_fraction_203 : decode cX6_fraction 203 = .ok (.aload_n 1, 1) := by decide +kernel
theorem dX6_fraction_204 : decode cX6_fraction 204 = .ok (.iload_n 3, 1) := by decide +kernel
theorem dX6_fraction_205 : decode cX6_fraction 205 = .ok (.iload 8, 2) := by decide +kernel
theorem dX6_fraction_207 : decode cX6_fraction 207 = .ok (.idiv, 1) := by decide +kernel
theorem dX6_fraction_208 : decode cX6_fraction 208 = .ok (.putfield 244, 3) := by decide +kernel
theorem dX6_fraction_211 : decode cX6_fraction 211 = .ok (.aload_n 1, 1) := by decide +kernel
theorem dX6_fraction_212 : decode cX6_fraction 212 = .ok (.iload 4, 2) := by decide +kernel
theorem dX6_fraction_214 : decode cX6_fraction 214 = .ok (.iload 8, 2) := by decide +kernel
theorem dX6_fraction_216 : decode cX6_fraction 216 = .ok (.idiv, 1) := by decide +kernel
theorem dX6_fraction_217 : decode cX6_fraction 217 = .ok (.putfield 241, 3) := by decide +kernel
theorem dX6_fraction_220 : decode cX6_fraction 220 = .ok (.goto 20, 3) := by decide +kernel
theorem dX6_fraction_223 : decode cX6_fraction 223 = .ok (.aload_n 1, 1) := by decide +kernel
theorem dX6_fraction_224 : decode cX6_fraction 224 = .ok (.iload_n 3, 1) := by decide +kernel
theorem dX6_fraction_225 : decode cX6_fraction 225 = .ok (.iload 8, 2) := by decide +kernel
theorem dX6_fraction_227 : decode cX6_fraction 227 = .ok (.idiv, 1) := by decide +kernel
theorem dX6_fraction_228 : decode cX6_fraction 228 = .ok (.putfield 253, 3) := by decide +kernel
theorem dX6_fraction_231 : decode cX6_fraction 231 = .ok (.aload_n 1, 1) := by decide +kernel
theorem dX6_fraction_232 : decode cX6_fraction 232 = .ok (.iload 4, 2) := by decide +kernel
theorem dX6_fraction_234 : decode cX6_fraction 234 = .ok (.iload 8, 2) := by decide +kernel
theorem dX6_fraction_236 : decode cX6_fraction 236 = .ok (.idiv, 1) := by decide +kernel
theorem dX6_fraction_237 : decode cX6_fraction 237 = .ok (.putfield 256, 3) := by decide +kernel
theorem dX6_fraction_240 : decode cX6_fraction 240 = .ok (.aload_n 0, 1) := by decide +kernel
theorem dX6_fraction_241 : decode cX6_fraction 241 = .ok (.getfield 31, 3) := by decide +kernel
theorem dX6_fraction_244 : decode cX6_fraction 244 = .ok (.invokevirtual 88, 3) := by decide +kernel
theorem dX6_fraction_247 : decode cX6_fraction 247 = .ok (.return_, 1) := by decide +kernel
theorem dX6_count_0 : decode cX6_count 0 = .ok (.aload_n 0, 1) := by decide +kernel
theorem dX6_count_1 : decode cX6_count 1 = .ok (.getfield 31, 3) := by decide +kernel
theorem dX6_count_4 : decode cX6_count 4 = .ok (.getfield 66, 3) := by decide +kernel
theorem dX6_count_7 : decode cX6_count 7 = .ok (.iconst 2, 1) := by decide +kernel
theorem dX6_count_8 : decode cX6_count 8 = .ok (.if_icmp .eq 34, 3) := by decide +kernel
theorem dX6_count_11 : decode cX6_count 11 = .ok (.aload_n 0, 1) := by decide +kernel
theorem dX6_count_12 : decode cX6_count 12 = .ok (.getfield 31, 3) := by decide +kernel
theorem dX6_count_15 : decode cX6_count 15 = .ok (.aload_n 0, 1) := by decide +kernel
theorem dX6_count_16 : decode cX6_count 16 = .ok (.getfield 31, 3) := by decide +kernel
theorem dX6_count_19 : decode cX6_count 19 = .ok (.getfield 66, 3) := by decide +kernel
theorem dX6_count_22 : decode cX6_count 22 = .ok (.iconst 3, 1) := by decide +kernel
theorem dX6_count_23 : decode cX6_count 23 = .ok (.if_icmp .ne 7, 3) := by decide +kernel
theorem dX6_count_26 : decode cX6_count 26 = .ok (.iconst 3, 1) := by decide +kernel
theorem dX6_count_27 : decode cX6_count 27 = .ok (.goto 4, 3) := by decide +kernel
theorem dX6_count_30 : decode cX6_count 30 = .ok (.iconst 1, 1) := by decide +kernel
theorem dX6_count_31 : decode cX6_count 31 = .ok (.aload_n 0, 1) := by decide +kernel
theorem dX6_count_32 : decode cX6_count 32 = .ok (.getfield 31, 3) := by decide +kernel
theorem dX6_count_35 : decode cX6_count 35 = .ok (.getfield 81, 3) := by decide +kernel
theorem dX6_count_38 : decode cX6_count 38 = .ok (.invokevirtual 84, 3) := by decide +kernel
theorem dX6_count_41 : decode cX6_count 41 = .ok (.return_, 1) := by decide +kernel
theorem dX6_count_42 : decode cX6_count 42 = .ok (.aload_n 1, 1) := by decide +kernel
theorem dX6_count_43 : decode cX6_count 43 = .ok (.getfield 218, 3) := by decide +kernel
theorem dX6_count_46 : decode cX6_count 46 = .ok (.bipush 16, 2) := by decide +kernel
theorem dX6_count_48 : decode cX6_count 48 = .ok (.if_icmp .eq 21, 3) := by decide +kernel
theorem dX6_count_51 : decode cX6_count 51 = .ok (.aload_n 1, 1) := by decide +kernel
theorem dX6_count_52 : decode cX6_count 52 = .ok (.getfield 218, 3) := by decide +kernel
theorem dX6_count_55 : decode cX6_count 55 = .ok (.bipush 17, 2) := by decide +kernel
theorem dX6_count_57 : decode cX6_count 57 = .ok (.if_icmp .eq 12, 3) := by decide +kernel
theorem dX6_count_60 : decode cX6_count 60 = .ok (.aload_n 1, 1) := by decide +kernel
theorem dX6_count_61 : decode cX6_count 61 = .ok (.getfield 218, 3) := by decide +kernel
theorem dX6_count_64 : decode cX6_count 64 = .ok (.bipush 18, 2) := by decide +kernel
theorem dX6_count_66 : decode cX6_count 66 = .ok (.if_icmp .ne 7, 3) := by decide +kernel
theorem dX6_count_69 : decode cX6_count 69 = .ok (.iconst 1, 1) := by decide +kernel
theorem dX6_count_70 : decode cX6_count 70 = .ok (.goto 4, 3) := by decide +kernel
theorem dX6_count_73 : decode cX6_count 73 = .ok (.iconst 0, 1) := by decide +kernel
theorem dX6_count_74 : decode cX6_count 74 = .ok (.istore_n 3, 1) := by decide +kernel
theorem dX6_count_75 : decode cX6_count 75 = .ok (.iload_n 3, 1) := by decide +kernel
theorem dX6_count_76 : decode cX6_count 76 = .ok (.ifCond .ne 16, 3) := by decide +kernel
theorem dX6_count_79 : decode cX6_count 79 = .ok (.aload_n 1, 1) := by decide +kernel
theorem dX6_count_80 : decode cX6_count 80 = .ok (.getfield 218, 3) := by decide +kernel
theorem dX6_count_83 : decode cX6_count 83 = .ok (.bipush 13, 2) := by decide +kernel
theorem dX6_count_85 : decode cX6_count 85 = .ok (.if_icmp .eq 7, 3) := by decide +kernel
theorem dX6_count_88 : decode cX6_count 88 = .ok (.iload_n 2, 1) := by decide +kernel
theorem dX6_count_89 : decode cX6_count 89 = .ok (.ifCond .ne 7, 3) := by decide +kernel
theorem dX6_count_92 : decode cX6_count 92 = .ok (.iconst 1, 1) := by decide +kernel
theorem dX6_count_93 : decode cX6_count 93 = .ok (.goto 4, 3) := by decide +kernel
theorem dX6_count_96 : decode cX6_count 96 = .ok (.iconst 0, 1) := by decide +kernel
theorem dX6_count_97 : decode cX6_count 97 = .ok (.istore 4, 2) := by decide +kernel
theorem dX6_count_99 : decode cX6_count 99 = .ok (.iload_n 3, 1) := by decide +kernel
theorem dX6_count_100 : decode cX6_count 100 = .ok (.ifCond .eq 9, 3) := by decide +kernel
theorem dX6_count_103 : decode cX6_count 103 = .ok (.sipush 1000, 3) := by decide +kernel
theorem dX6_count_106 : decode cX6_count 106 = .ok (.goto 5, 3) := by decide +kernel
theorem dX6_count_109 : decode cX6_count 109 = .ok (.bipush 32, 2) := by decide +kernel
theorem dX6_count_111 : decode cX6_count 111 = .ok (.istore 5, 2) := by decide +kernel
theorem dX6_count_113 : decode cX6_count 113 = .ok (.aload_n 0, 1) := by decide +kernel
theorem dX6_count_114 : decode cX6_count 114 = .ok (.getfield 31, 3) := by decide +kernel
theorem dX6_count_117 : decode cX6_count 117 = .ok (.getfield 235, 3) := by decide +kernel
theorem dX6_count_120 : decode cX6_count 120 = .ok (.iload 5, 2) := by decide +kernel
theorem dX6_count_122 : decode cX6_count 122 = .ok (.if_icmp .gt 18, 3) := by decide +kernel
theorem dX6_count_125 : decode cX6_count 125 = .ok (.aload_n 0, 1) := by decide +kernel
theorem dX6_count_126 : decode cX6_count 126 = .ok (.getfield 31, 3) := by decide +kernel
theorem dX6_count_129 : decode cX6_count 129 = .ok (.getfield 235, 3) := by decide +kernel
theorem dX6_count_132 : decode cX6_count 132 = .ok (.ifCond .ne 24, 3) := by decide +kernel
theorem dX6_count_135 : decode cX6_count 135 = .ok (.iload 4, 2) := by decide +kernel
theorem dX6_count_137 : decode cX6_count 137 = .ok (.ifCond .ne 19, 3) := by decide +kernel
theorem dX6_count_140 : decode cX6_count 140 = .ok (.aload_n 0, 1) := by decide +kernel
theorem dX6_count_141 : decode cX6_count 141 = .ok (.getfield 31, 3) := by decide +kernel
theorem dX6_count_144 : decode cX6_count 144 = .ok (.iconst 3, 1) := by decide +kernel
theorem dX6_count_145 : decode cX6_count 145 = .ok (.aload_n 0, 1) := by decide +kernel
theorem dX6_count_146 : decode cX6_count 146 = .ok (.getfield 31, 3) := by decide +kernel
theorem dX6_count_149 : decode cX6_count 149 = .ok (.getfield 81, 3) := by decide +kernel
theorem dX6_count_152 : decode cX6_count 152 = .ok (.invokevirtual 84, 3) := by decide +kernel
theorem dX6_count_155 : decode cX6_count 155 = .ok (.return_, 1) := by decide +kernel
theorem dX6_count_156 : decode cX6_count 156 = .ok (.iload_n 2, 1) := by decide +kernel
theorem dX6_count_157 : decode cX6_count 157 = .ok (.ifCond .eq 17, 3) := by decide +kernel
theorem dX6_count_160 : decode cX6_count 160 = .ok (.aload_n 1, 1) := by decide +kernel
theorem dX6_count_161 : decode cX6_count 161 = .ok (.aload_n 0, 1) := by decide +kernel
theorem dX6_count_162 : decode cX6_count 162 = .ok (.getfield 31, 3) := by decide +kernel
theorem dX6_count_165 : decode cX6_count 165 = .ok (.getfield 235, 3) := by decide +kernel
theorem dX6_count_168 : decode cX6_count 168 = .ok (.putfield 244, 3) := by decide +kernel
theorem dX6_count_171 : decode cX6_count 171 = .ok (.goto 14, 3) := by decide +kernel
theorem dX6_count_174 : decode cX6_count 174 = .ok (.aload_n 1, 1) := by decide +kernel
theorem dX6_count_175 : decode cX6_count 175 = .ok (.aload_n 0, 1) := by decide +kernel
theorem dX6_count_176 : decode cX6_count 176 = .ok (.getfield 31, 3) := by decide +kernel
theorem dX6_count_179 : decode cX6_count 179 = .ok (.getfield 235, 3) := by decide +kernel
theorem dX6_count_182 : decode cX6_count 182 = .ok (.putfield 241, 3) := by decide +kernel
theorem dX6_count_185 : decode cX6_count 185 = .ok (.aload_n 0, 1) := by decide +kernel
theorem dX6_count_186 : decode cX6_count 186 = .ok (.getfield 31, 3) := by decide +kernel
theorem dX6_count_189 : decode cX6_count 189 = .ok (.invokevirtual 88, 3) := by decide +kernel
theorem dX6_count_192 : decode cX6_count 192 = .ok (.return_, 1) := by decide +kernel
theorem dX6_fun_0 : decode cX6_fun 0 = .ok (.aload_n 0, 1) := by decide +kernel
theorem dX6_fun_1 : decode cX6_fun 1 = .ok (.getfield 31, 3) := by decide +kernel
theorem dX6_fun_4 : decode cX6_fun 4 = .ok (.getfield 66, 3) := by decide +kernel
theorem dX6_fun_7 : decode cX6_fun 7 = .ok (.iconst 1, 1) := by decide +kernel
theorem dX6_fun_8 : decode cX6_fun 8 = .ok (.if_icmp .ne 8, 3) := by decide +kernel
theorem dX6_fun_11 : decode cX6_fun 11 = .ok (.aload_n 0, 1) := by decide +kernel
theorem dX6_fun_12 : decode cX6_fun 12 = .ok (.invokevirtual 259, 3) := by decide +kernel
theorem dX6_fun_15 : decode cX6_fun 15 = .ok (.areturn, 1) := by decide +kernel
theorem dX6_fun_16 : decode cX6_fun 16 = .ok (.aload_n 0, 1) := by decide +kernel
theorem dX6_fun_17 : decode cX6_fun 17 = .ok (.getfield 31, 3) := by decide +kernel
theorem dX6_fun_20 : decode cX6_fun 20 = .ok (.getfield 66, 3) := by decide +kernel
theorem dX6_fun_23 : decode cX6_fun 23 = .ok (.bipush 40, 2) := by decide +kernel
theorem dX6_fun_25 : decode cX6_fun 25 = .ok (.if_icmp .eq 20, 3) := by decide +kernel
theorem dX6_fun_28 : decode cX6_fun 28 = .ok (.aload_n 0, 1) := by decide +kernel
theorem dX6_fun_29 : decode cX6_fun 29 = .ok (.getfield 31, 3) := by decide +kernel
theorem dX6_fun_32 : decode cX6_fun 32 = .ok (.iconst 1, 1) := by decide +kernel
theorem dX6_fun_33 : decode cX6_fun 33 = .ok (.aload_n 0, 1) := by decide +kernel
theorem dX6_fun_34 : decode cX6_fun 34 = .ok (.getfield 31, 3) := by decide +kernel
theorem dX6_fun_37 : decode cX6_fun 37 = .ok (.getfield 81, 3) := by decide +kernel
theorem dX6_fun_40 : decode cX6_fun 40 = .ok (.invokevirtual 84, 3) := by decide +kernel
theorem dX6_fun_43 : decode cX6_fun 43 = .ok (.aconst_null, 1) := by decide +kernel
theorem dX6_fun_44 : decode cX6_fun 44 = .ok (.areturn, 1) := by decide +kernel
theorem dX6_fun_45 : decode cX6_fun 45 = .ok (.aload_n 0, 1) := by decide +kernel
theorem dX6_fun_46 : decode cX6_fun 46 = .ok (.getfield 31, 3) := by decide +kernel
theorem dX6_fun_49 : decode cX6_fun 49 = .ok (.aload_n 0, 1) := by decide +kernel
theorem dX6_fun_50 : decode cX6_fun 50 = .ok (.getfield 31, 3) := by decide +kernel
theorem dX6_fun_53 : decode cX6_fun 53 = .ok (.getfield 81, 3) := by decide +kernel
theorem dX6_fun_56 : decode cX6_fun 56 = .ok (.invokevirtual 181, 3) := by decide +kernel
theorem dX6_fun_59 : decode cX6_fun 59 = .ok (.ifCond .ne 5, 3) := by decide +kernel
theorem dX6_fun_62 : decode cX6_fun 62 = .ok (.aconst_null, 1) := by decide +kernel
theorem dX6_fun_63 : decode cX6_fun 63 = .ok (.areturn, 1) := by decide +kernel
theorem dX6_fun_64 : decode cX6_fun 64 = .ok (.aconst_null, 1) := by decide +kernel
theorem dX6_fun_65 : decode cX6_fun 65 = .ok (.astore_n 1, 1) := by decide +kernel
theorem dX6_fun_66 : decode cX6_fun 66 = .ok (.iconst 1, 1) := by decide +kernel
theorem dX6_fun_67 : decode cX6_fun 67 = .ok (.istore_n 2, 1) := by decide +kernel
theorem dX6_fun_68 : decode cX6_fun 68 = .ok (.iconst 0, 1) := by decide +kernel
theorem dX6_fun_69 : decode cX6_fun 69 = .ok (.istore_n 3, 1) := by decide +kernel
theorem dX6_fun_70 : decode cX6_fun 70 = .ok (.iload_n 3, 1) := by decide +kernel
theorem dX6_fun_71 : decode cX6_fun 71 = .ok (.sipush 2000, 3) := by decide +kernel
theorem dX6_fun_74 : decode cX6_fun 74 = .ok (.if_icmp .ge 68, 3) := by decide +kernel
theorem dX6_fun_77 : decode cX6_fun 77 = .ok (.iload_n 2, 1) := by decide +kernel
theorem dX6_fun_78 : decode cX6_fun 78 = .ok (.ifCond .eq 64, 3) := by decide +kernel
theorem dX6_fun_81 : decode cX6_fun 81 = .ok (.aload_n 0, 1) := by decide +kernel
theorem dX6_fun_82 : decode cX6_fun 82 = .ok (.getfield 31, 3) := by decide +kernel
theorem dX6_fun_85 : decode cX6_fun 85 = .ok (.getfield 72, 3) := by decide +kernel
theorem dX6_fun_88 : decode cX6_fun 88 = .ok (.ifCond .ne 54, 3) := by decide +kernel
theorem dX6_fun_91 : decode cX6_fun 91 = .ok (.aload_n 0, 1) := by decide +kernel
theorem dX6_fun_92 : decode cX6_fun 92 = .ok (.getfield 31, 3) := by decide +kernel
theorem dX6_fun_95 : decode cX6_fun 95 = .ok (.invokevirtual 88, 3) := by decide +kernel
theorem dX6_fun_98 : decode cX6_fun 98 = .ok (.aload_n 0, 1) := by decide +kernel
theorem dX6_fun_99 : decode cX6_fun 99 = .ok (.invokevirtual 262, 3) := by decide +kernel
theorem dX6_fun_102 : decode cX6_fun 102 = .ok (.astore 4, 2) := by decide +kernel
theorem dX6_fun_104 : decode cX6_fun 104 = .ok (.aload 4, 2) := by decide +kernel
theorem dX6_fun_106 : decode cX6_fun 106 = .ok (.ifnull 12, 3) := by decide +kernel
theorem dX6_fun_109 : decode cX6_fun 109 = .ok (.aload 4, 2) := by decide +kernel
theorem dX6_fun_111 : decode cX6_fun 111 = .ok (.aload_n 1, 1) := by decide +kernel
theorem dX6_fun_112 : decode cX6_fun 112 = .ok (.putfield 265, 3) := by decide +kernel
theorem dX6_fun_115 : decode cX6_fun 115 = .ok (.aload 4, 2) := by decide +kernel
theorem dX6_fun_117 : decode cX6_fun 117 = .ok (.astore_n 1, 1) := by decide +kernel
theorem dX6_fun_118 : decode cX6_fun 118 = .ok (.aload_n 0, 1) := by decide +kernel
theorem dX6_fun_119 : decode cX6_fun 119 = .ok (.getfield 31, 3) := by decide +kernel
theorem dX6_fun_122 : decode cX6_fun 122 = .ok (.getfield 66, 3) := by decide +kernel
theorem dX6_fun_125 : decode cX6_fun 125 = .ok (.bipush 46, 2) := by decide +kernel
theorem dX6_fun_127 : decode cX6_fun 127 = .ok (.if_icmp .ne 7, 3) := by decide +kernel
theorem dX6_fun_130 : decode cX6_fun 130 = .ok (.iconst 1, 1) := by decide +kernel
theorem dX6_fun_131 : decode cX6_fun 131 = .ok (.goto 4, 3) := by decide +kernel
theorem dX6_fun_134 : decode cX6_fun 134 = .ok (.iconst 0, 1) := by decide +kernel
theorem dX6_fun_135 : decode cX6_fun 135 = .ok (.istore_n 2, 1) := by decide +kernel
theorem dX6_fun_136 : decode cX6_fun 136 = .ok (.iinc 3 1, 3) := by decide +kernel
theorem dX6_fun_139 : decode cX6_fun 139 = .ok (.goto (-69), 3) := by decide +kernel
theorem dX6_fun_142 : decode cX6_fun 142 = .ok (.aload_n 0, 1) := by decide +kernel
theorem dX6_fun_143 : decode cX6_fun 143 = .ok (.bipush 41, 2) := by decide +kernel
theorem dX6_fun_145 : decode cX6_fun 145 = .ok (.invokevirtual 109, 3) := by decide +kernel
theorem dX6_fun_148 : decode cX6_fun 148 = .ok (.aload_n 0, 1) := by decide +kernel
theorem dX6_fun_149 : decode cX6_fun 149 = .ok (.getfield 31, 3) := by decide +kernel
theorem dX6_fun_152 : decode cX6_fun 152 = .ok (.dup, 1) := by decide +kernel
theorem dX6_fun_153 : decode cX6_fun 153 = .ok (.getfield 197, 3) := by decide +kernel
theorem dX6_fun_156 : decode cX6_fun 156 = .ok (.iconst 1, 1) := by decide +kernel
theorem dX6_fun_157 : decode cX6_fun 157 = .ok (.isub, 1) := by decide +kernel
theorem dX6_fun_158 : decode cX6_fun 158 = .ok (.putfield 197, 3) := by decide +kernel
theorem dX6_fun_161 : decode cX6_fun 161 = .ok (.aload_n 1, 1) := by decide +kernel
theorem dX6_fun_162 : decode cX6_fun 162 = .ok (.areturn, 1) := by decide +kernel
theorem dX6_funName_0 : decode cX6_funName 0 = .ok (.aload_n 0, 1) := by decide +kernel
theorem dX6_funName_1 : decode cX6_funName 1 = .ok (.aload_n 0, 1) := by decide +kernel
theorem dX6_funName_2 : decode cX6_funName 2 = .ok (.getfield 31, 3) := by decide +kernel
theorem dX6_funName_5 : decode cX6_funName 5 = .ok (.getfield 91, 3) := by decide +kernel
theorem dX6_funName_8 : decode cX6_funName 8 = .ok (.invokevirtual 165, 3) := by decide +kernel
theorem dX6_funName_11 : decode cX6_funName 11 = .ok (.istore_n 1, 1) := by decide +kernel
theorem dX6_funName_12 : decode cX6_funName 12 = .ok (.iload_n 1, 1) := by decide +kernel
theorem dX6_funName_13 : decode cX6_funName 13 = .ok (.iconst 2, 1) := by decide +kernel
theorem dX6_funName_14 : decode cX6_funName 14 = .ok (.if_icmp .ne 15, 3) := by decide +kernel
theorem dX6_funName_17 : decode cX6_funName 17 = .ok (.aload_n 0, 1) := by decide +kernel
theorem dX6_funName_18 : decode cX6_funName 18 = .ok (.getfield 24, 3) := by decide +kernel
theorem dX6_funName_21 : decode cX6_funName 21 = .ok (.iconst 4, 1) := by decide +kernel
theorem dX6_funName_22 : decode cX6_funName 22 = .ok (.if_icmp .ne 7, 3) := by decide +kernel
theorem dX6_funName_25 : decode cX6_funName 25 = .ok (.iconst 1, 1) := by decide +kernel
theorem dX6_funName_26 : decode cX6_funName 26 = .ok (.goto 4, 3) := by decide +kernel
theorem dX6_funName_29 : decode cX6_funName 29 = .ok (.iconst 0, 1) := by decide +kernel
theorem dX6_funName_30 : decode cX6_funName 30 = .ok (.istore_n 2, 1) := by decide +kernel
theorem dX6_funName_31 : decode cX6_funName 31 = .ok (.iload_n 1, 1) := by decide +kernel
theorem dX6_funName_32 : decode cX6_funName 32 = .ok (.iconst 4, 1) := by decide +kernel
theorem dX6_funName_33 : decode cX6_funName 33 = .ok (.if_icmp .ne 18, 3) := by decide +kernel
theorem dX6_funName_36 : decode cX6_funName 36 = .ok (.aload_n 0, 1) := by decide +kernel
theorem dX6_funName_37 : decode cX6_funName 37 = .ok (.getfield 28, 3) := by decide +kernel
theorem dX6_funName_40 : decode cX6_funName 40 = .ok (.getfield 103, 3) := by decide +kernel
theorem dX6_funName_43 : decode cX6_funName 43 = .ok (.iconst 1, 1) := by decide +kernel
theorem dX6_funName_44 : decode cX6_funName 44 = .ok (.if_icmp .ne 7, 3) := by decide +kernel
theorem dX6_funName_47 : decode cX6_funName 47 = .ok (.iconst 1, 1) := by decide +kernel
theorem dX6_funName_48 : decode cX6_funName 48 = .ok (.goto 4, 3) := by decide +kernel
theorem dX6_funName_51 : decode cX6_funName 51 = .ok (.iconst 0, 1) := by decide +kernel
theorem dX6_funName_52 : decode cX6_funName 52 = .ok (.istore_n 3, 1) := by decide +kernel
theorem dX6_funName_53 : decode cX6_funName 53 = .ok (.iload_n 2, 1) := by decide +kernel
theorem dX6_funName_54 : decode cX6_funName 54 = .ok (.ifCond .ne 24, 3) := by decide +kernel
theorem dX6_funName_57 : decode cX6_funName 57 = .ok (.iload_n 3, 1) := by decide +kernel
theorem dX6_funName_58 : decode cX6_funName 58 = .ok (.ifCond .ne 20, 3) := by decide +kernel
theorem dX6_funName_61 : decode cX6_funName 61 = .ok (.aload_n 0, 1) := by decide +kernel
theorem dX6_funName_62 : decode cX6_funName 62 = .ok (.getfield 31, 3) := by decide +kernel
theorem dX6_funName_65 : decode cX6_funName 65 = .ok (.iconst 2, 1) := by decide +kernel
theorem dX6_funName_66 : decode cX6_funName 66 = .ok (.aload_n 0, 1) := by decide +kernel
theorem dX6_funName_67 : decode cX6_funName 67 = .ok (.getfield 31, 3) := by decide +kernel
theorem dX6_funName_70 : decode cX6_funName 70 = .ok (.getfield 81, 3) := by decide +kernel
theorem dX6_funName_73 : decode cX6_funName 73 = .ok (.invokevirtual 84, 3) := by decide +kernel
theorem dX6_funName_76 : decode cX6_funName 76 = .ok (.aconst_null, 1) := by decide +kernel
theorem dX6_funName_77 : decode cX6_funName 77 = .ok (.areturn, 1) := by decide +kernel
theorem dX6_funName_78 : decode cX6_funName 78 = .ok (.aload_n 0, 1) := by decide +kernel
theorem dX6_funName_79 : decode cX6_funName 79 = .ok (.iload_n 1, 1) := by decide +kernel
theorem dX6_funName_80 : decode cX6_funName 80 = .ok (.invokevirtual 168, 3) := by decide +kernel
theorem dX6_funName_83 : decode cX6_funName 83 = .ok (.areturn, 1) := by decide +kernel
theorem dX6_piece_0 : decode cX6_piece 0 = .ok (.aload_n 0, 1) := by decide +kernel
theorem dX6_piece_1 : decode cX6_piece 1 = .ok (.getfield 31, 3) := by decide +kernel
theorem dX6_piece_4 : decode cX6_piece 4 = .ok (.getfield 81, 3) := by decide +kernel
theorem dX6_piece_7 : decode cX6_piece 7 = .ok (.istore_n 1, 1) := by decide +kernel
theorem dX6_piece_8 : decode cX6_piece 8 = .ok (.aload_n 0, 1) := by decide +kernel
theorem dX6_piece_9 : decode cX6_piece 9 = .ok (.getfield 31, 3) := by decide +kernel
theorem dX6_piece_12 : decode cX6_piece 12 = .ok (.getfield 66, 3) := by decide +kernel
theorem dX6_piece_15 : decode cX6_piece 15 = .ok (.iconst 1, 1) := by decide +kernel
theorem dX6_piece_16 : decode cX6_piece 16 = .ok (.if_icmp .ne 42, 3) := by decide +kernel
theorem dX6_piece_19 : decode cX6_piece 19 = .ok (.aload_n 0, 1) := by decide +kernel
theorem dX6_piece_20 : decode cX6_piece 20 = .ok (.aload_n 0, 1) := by decide +kernel
theorem dX6_piece_21 : decode cX6_piece 21 = .ok (.getfield 31, 3) := by decide +kernel
theorem dX6_piece_24 : decode cX6_piece 24 = .ok (.getfield 91, 3) := by decide +kernel
theorem dX6_piece_27 : decode cX6_piece 27 = .ok (.invokevirtual 165, 3) := by decide +kernel
theorem dX6_piece_30 : decode cX6_piece 30 = .ok (.istore_n 2, 1) := by decide +kernel
theorem dX6_piece_31 : decode cX6_piece 31 = .ok (.iload_n 2, 1) := by decide +kernel
theorem dX6_piece_32 : decode cX6_piece 32 = .ok (.iconst 2, 1) := by decide +kernel
theorem dX6_piece_33 : decode cX6_piece 33 = .ok (.if_icmp .eq 8, 3) := by decide +kernel
theorem dX6_piece_36 : decode cX6_piece 36 = .ok (.iload_n 2, 1) := by decide +kernel
theorem dX6_piece_37 : decode cX6_piece 37 = .ok (.iconst 4, 1) := by decide +kernel
theorem dX6_piece_38 : decode cX6_piece 38 = .ok (.if_icmp .ne 9, 3) := by decide +kernel
theorem dX6_piece_41 : decode cX6_piece 41 = .ok (.aload_n 0, 1) := by decide +kernel
theorem dX6_piece_42 : decode cX6_piece 42 = .ok (.iload_n 2, 1) := by decide +kernel
theorem dX6_piece_43 : decode cX6_piece 43 = .ok (.invokevirtual 168, 3) := by decide +kernel
theorem dX6_piece_46 : decode cX6_piece 46 = .ok (.areturn, 1) := by decide +kernel
theorem dX6_piece_47 : decode cX6_piece 47 = .ok (.aload_n 0, 1) := by decide +kernel
theorem dX6_piece_48 : decode cX6_piece 48 = .ok (.getfield 31, 3) := by decide +kernel
theorem dX6_piece_51 : decode cX6_piece 51 = .ok (.iconst 2, 1) := by decide +kernel
theorem dX6_piece_52 : decode cX6_piece 52 = .ok (.iload_n 1, 1) := by decide +kernel
theorem dX6_piece_53 : decode cX6_piece 53 = .ok (.invokevirtual 84, 3) := by decide +kernel
theorem dX6_piece_56 : decode cX6_piece 56 = .ok (.aconst_null, 1) := by decide +kernel
theorem dX6_piece_57 : decode cX6_piece 57 = .ok (.areturn, 1) := by decide +kernel
theorem dX6_piece_58 : decode cX6_piece 58 = .ok (.aload_n 0, 1) := by decide +kernel
theorem dX6_piece_59 : decode cX6_piece 59 = .ok (.getfield 31, 3) := by decide +kernel
theorem dX6_piece_62 : decode cX6_piece 62 = .ok (.getfield 66, 3) := by decide +kernel
theorem dX6_piece_65 : decode cX6_piece 65 = .ok (.bipush 40, 2) := by decide +kernel
theorem dX6_piece_67 : decode cX6_piece 67 = .ok (.if_icmp .ne 24, 3) := by decide +kernel
theorem dX6_piece_70 : decode cX6_piece 70 = .ok (.new 173, 3) := by decide +kernel
theorem dX6_piece_73 : decode cX6_piece 73 = .ok (.dup, 1) := by decide +kernel
theorem dX6_piece_74 : decode cX6_piece 74 = .ok (.bipush 23, 2) := by decide +kernel
theorem dX6_piece_76 : decode cX6_piece 76 = .ok (.iload_n 1, 1) := by decide +kernel
theorem dX6_piece_77 : decode cX6_piece 77 = .ok (.invokespecial 208, 3) := by decide +kernel
theorem dX6_piece_80 : decode cX6_piece 80 = .ok (.astore_n 2, 1) := by decide +kernel
theorem dX6_piece_81 : decode cX6_piece 81 = .ok (.aload_n 2, 1) := by decide +kernel
theorem dX6_piece_82 : decode cX6_piece 82 = .ok (.aload_n 0, 1) := by decide +kernel
theorem dX6_piece_83 : decode cX6_piece 83 = .ok (.invokevirtual 228, 3) := by decide +kernel
theorem dX6_piece_86 : decode cX6_piece 86 = .ok (.putfield 232, 3) := by decide +kernel
theorem dX6_piece_89 : decode cX6_piece 89 = .ok (.aload_n 2, 1) := by decide +kernel
theorem dX6_piece_90 : decode cX6_piece 90 = .ok (.areturn, 1) := by decide +kernel
theorem dX6_piece_91 : decode cX6_piece 91 = .ok (.aload_n 0, 1) := by decide +kernel
theorem dX6_piece_92 : decode cX6_piece 92 = .ok (.getfield 31, 3) := by decide +kernel
theorem dX6_piece_95 : decode cX6_piece 95 = .ok (.getfield 66, 3) := by decide +kernel
theorem dX6_piece_98 : decode cX6_piece 98 = .ok (.invokestatic 155, 3) := by decide +kernel
theorem dX6_piece_101 : decode cX6_piece 101 = .ok (.ifCond .ne 14, 3) := by decide +kernel
theorem dX6_piece_104 : decode cX6_piece 104 = .ok (.aload_n 0, 1) := by decide +kernel
theorem dX6_piece_105 : decode cX6_piece 105 = .ok (.getfield 31, 3) := by decide +kernel
theorem dX6_piece_108 : decode cX6_piece 108 = .ok (.iconst 1, 1) := by decide +kernel
theorem dX6_piece_109 : decode cX6_piece 109 = .ok (.iload_n 1, 1) := by decide +kernel
theorem dX6_piece_110 : decode cX6_piece 110 = .ok (.invokevirtual 84, 3) := by decide +kernel
theorem dX6_piece_113 : decode cX6_piece 113 = .ok (.aconst_null, 1) := by decide +kernel
theorem dX6_piece_114 : decode cX6_piece 114 = .ok (.areturn, 1) := by decide +kernel
theorem dX6_piece_115 : decode cX6_piece 115 = .ok (.new 173, 3) := by decide +kernel
theorem dX6_piece_118 : decode cX6_piece 118 = .ok (.dup, 1) := by decide +kernel
theorem dX6_piece_119 : decode cX6_piece 119 = .ok (.bipush 21, 2) := by decide +kernel
theorem dX6_piece_121 : decode cX6_piece 121 = .ok (.iload_n 1, 1) := by decide +kernel
theorem dX6_piece_122 : decode cX6_piece 122 = .ok (.invokespecial 208, 3) := by decide +kernel
theorem dX6_piece_125 : decode cX6_piece 125 = .ok (.astore_n 2, 1) := by decide +kernel
theorem dX6_piece_126 : decode cX6_piece 126 = .ok (.aload_n 2, 1) := by decide +kernel
theorem dX6_piece_127 : decode cX6_piece 127 = .ok (.aload_n 0, 1) := by decide +kernel
theorem dX6_piece_128 : decode cX6_piece 128 = .ok (.getfield 31, 3) := by decide +kernel
theorem dX6_piece_131 : decode cX6_piece 131 = .ok (.getfield 66, 3) := by decide +kernel
theorem dX6_piece_134 : decode cX6_piece 134 = .ok (.putfield 244, 3) := by decide +kernel
theorem dX6_piece_137 : decode cX6_piece 137 = .ok (.aload_n 0, 1) := by decide +kernel
theorem dX6_piece_138 : decode cX6_piece 138 = .ok (.getfield 31, 3) := by decide +kernel
theorem dX6_piece_141 : decode cX6_piece 141 = .ok (.invokevirtual 88, 3) := by decide +kernel
theorem dX6_piece_144 : decode cX6_piece 144 = .ok (.aload_n 2, 1) := by decide +kernel
theorem dX6_piece_145 : decode cX6_piece 145 = .ok (.aload_n 0, 1) := by decide +kernel
theorem dX6_piece_146 : decode cX6_piece 146 = .ok (.invokevirtual 162, 3) := by decide +kernel
theorem dX6_piece_149 : decode cX6_piece 149 = .ok (.invokevirtual 216, 3) := by decide +kernel
theorem dX6_piece_152 : decode cX6_piece 152 = .ok (.aload_n 2, 1) := by decide +kernel
theorem dX6_piece_153 : decode cX6_piece 153 = .ok (.areturn, 1) := by decide +kernel
theorem dX7_ceiling_0 : decode cX7_ceiling 0 = .ok (.lload_n 2, 1) := by decide +kernel
theorem dX7_ceiling_1 : decode cX7_ceiling 1 = .ok (.lconst 0, 1) := by decide +kernel
theorem dX7_ceiling_2 : decode cX7_ceiling 2 = .ok (.lcmp, 1) := by decide +kernel
theorem dX7_ceiling_3 : decode cX7_ceiling 3 = .ok (.ifCond .ne 7, 3) := by decide +kernel
theorem dX7_ceiling_6 : decode cX7_ceiling 6 = .ok (.lconst 0, 1) := by decide +kernel
theorem dX7_ceiling_7 : decode cX7_ceiling 7 = .ok (.goto 10, 3) := by decide +kernel
theorem dX7_ceiling_10 : decode cX7_ceiling 10 = .ok (.lload_n 0, 1) := by decide +kernel
theorem dX7_ceiling_11 : decode cX7_ceiling 11 = .ok (.lneg, 1) := by decide +kernel
theorem dX7_ceiling_12 : decode cX7_ceiling 12 = .ok (.lload_n 2, 1) := by decide +kernel
theorem dX7_ceiling_13 : decode cX7_ceiling 13 = .ok (.invokestatic 22, 3) := by decide +kernel
theorem dX7_ceiling_16 : decode cX7_ceiling 16 = .ok (.lneg, 1) := by decide +kernel
theorem dX7_ceiling_17 : decode cX7_ceiling 17 = .ok (.lreturn, 1) := by decide +kernel
theorem dX7_workOut_0 : decode cX7_workOut 0 = .ok (.aload_n 0, 1) := by decide +kernel
theorem dX7_workOut_1 : decode cX7_workOut 1 = .ok (.getfield 12, 3) := by decide +kernel
theorem dX7_workOut_4 : decode cX7_workOut 4 = .ok (.iconst 0, 1) := by decide +kernel
theorem dX7_workOut_5 : decode cX7_workOut 5 = .ok (.putfield 28, 3) := by decide +kernel
theorem dX7_workOut_8 : decode cX7_workOut 8 = .ok (.aload_n 0, 1) := by decide +kernel
theorem dX7_workOut_9 : decode cX7_workOut 9 = .ok (.aload_n 1, 1) := by decide +kernel
theorem dX7_workOut_10 : decode cX7_workOut 10 = .ok (.lload_n 2, 1) := by decide +kernel
theorem dX7_workOut_11 : decode cX7_workOut 11 = .ok (.invokevirtual 31, 3) := by decide +kernel
theorem dX7_workOut_14 : decode cX7_workOut 14 = .ok (.return_, 1) := by decide +kernel
theorem dX7_row_0 : decode cX7_row 0 = .ok (.aload_n 1, 1) := by decide +kernel
theorem dX7_row_1 : decode cX7_row 1 = .ok (.getfield 35, 3) := by decide +kernel
theorem dX7_row_4 : decode cX7_row 4 = .ok (.lconst 0, 1) := by decide +kernel
theorem dX7_row_5 : decode cX7_row 5 = .ok (.lcmp, 1) := by decide +kernel
theorem dX7_row_6 : decode cX7_row 6 = .ok (.ifCond .ne 4, 3) := by decide +kernel
theorem dX7_row_9 : decode cX7_row 9 = .ok (.return_, 1) := by decide +kernel
theorem dX7_row_10 : decode cX7_row 10 = .ok (.aload_n 1, 1) := by decide +kernel
theorem dX7_row_11 : decode cX7_row 11 = .ok (.getfield 41, 3) := by decide +kernel
theorem dX7_row_14 : decode cX7_row 14 = .ok (.astore 4, 2) := by decide +kernel
theorem dX7_row_16 : decode cX7_row 16 = .ok (.aload 4, 2) := by decide +kernel
theorem dX7_row_18 : decode cX7_row 18 = .ok (.getfield 45, 3) := by decide +kernel
theorem dX7_row_21 : decode cX7_row 21 = .ok (.tableswitch 460 1 24 #[111, 130, 149, 152, 161, 170, 179, 188, 197, 206, 227, 236, 265, 299, 324, 333, 342, 391, 418, 439, 418, 400, 400, 409], 111) := by decide +kernel
theorem dX7_row_132 : decode cX7_row 132 = .ok (.aload_n 0, 1) := by decide +kernel
theorem dX7_row_133 : decode cX7_row 133 = .ok (.getfield 12, 3) := by decide +kernel
theorem dX7_row_136 : decode cX7_row 136 = .ok (.lconst 0, 1) := by decide +kernel
theorem dX7_row_137 : decode cX7_row 137 = .ok (.lconst 1, 1) := by decide +kernel
theorem dX7_row_138 : decode cX7_row 138 = .ok (.aload 4, 2) := by decide +kernel
theorem dX7_row_140 : decode cX7_row 140 = .ok (.getfield 50, 3) := by decide +kernel
theorem dX7_row_143 : decode cX7_row 143 = .ok (.iconst 0, 1) := by decide +kernel
theorem dX7_row_144 : decode cX7_row 144 = .ok (.iconst 0, 1) := by decide +kernel
theorem dX7_row_145 : decode cX7_row 145 = .ok (.invokevirtual 53, 3) := by decide +kernel
theorem dX7_row_148 : decode cX7_row 148 = .ok (.goto 333, 3) := by decide +kernel
theorem dX7_row_151 : decode cX7_row 151 = .ok (.aload_n 0, 1) := by decide +kernel
theorem dX7_row_152 : decode cX7_row 152 = .ok (.getfield 12, 3) := by decide +kernel
theorem dX7_row_155 : decode cX7_row 155 = .ok (.lconst 0, 1) := by decide +kernel
theorem dX7_row_156 : decode cX7_row 156 = .ok (.lconst 1, 1) := by decide +kernel
theorem dX7_row_157 : decode cX7_row 157 = .ok (.lconst 0, 1) := by decide +kernel
theorem dX7_row_158 : decode cX7_row 158 = .ok (.aload 4, 2) := by decide +kernel
theorem dX7_row_160 : decode cX7_row 160 = .ok (.getfield 57, 3) := by decide +kernel
theorem dX7_row_163 : decode cX7_row 163 = .ok (.iconst 1, 1) := by decide +kernel
theorem dX7_row_164 : decode cX7_row 164 = .ok (.invokevirtual 53, 3) := by decide +kernel
theorem dX7_row_167 : decode cX7_row 167 = .ok (.goto 314, 3) := by decide +kernel
theorem dX7_row_170 : decode cX7_row 170 = .ok (.goto 311, 3) := by decide +kernel
theorem dX7_row_173 : decode cX7_row 173 = .ok (.aload_n 0, 1) := by decide +kernel
theorem dX7_row_174 : decode cX7_row 174 = .ok (.aload_n 1, 1) := by decide +kernel
theorem dX7_row_175 : decode cX7_row 175 = .ok (.lload_n 2, 1) := by decide +kernel
theorem dX7_row_176 : decode cX7_row 176 = .ok (.invokevirtual 60, 3) := by decide +kernel
theorem dX7_row_179 : decode cX7_row 179 = .ok (.goto 302, 3) := by decide +kernel
theorem dX7_row_182 : decode cX7_row 182 = .ok (.aload_n 0, 1) := by decide +kernel
theorem dX7_row_183 : decode cX7_row 183 = .ok (.aload_n 1, 1) := by decide +kernel
theorem dX7_row_184 : decode cX7_row 184 = .ok (.lload_n 2, 1) := by decide +kernel
theorem dX7_row_185 : decode cX7_row 185 = .ok (.invokevirtual 63, 3) := by decide +kernel
theorem dX7_row_188 : decode cX7_row 188 = .ok (.goto 293, 3) := by decide +kernel
theorem dX7_row_191 : decode cX7_row 191 = .ok (.aload_n 0, 1) := by decide +kernel
theorem dX7_row_192 : decode cX7_row 192 = .ok (.aload_n 1, 1) := by decide +kernel
theorem dX7_row_193 : decode cX7_row 193 = .ok (.lload_n 2, 1) := by decide +kernel
theorem dX7_row_194 : decode cX7_row 194 = .ok (.invokevirtual 66, 3) := by decide +kernel
theorem dX7_row_197 : decode cX7_row 197 = .ok (.goto 284, 3) := by decide +kernel
theorem dX7_row_200 : decode cX7_row 200 = .ok (.aload_n 0, 1) := by decide +kernel
theorem dX7_row_201 : decode cX7_row 201 = .ok (.aload_n 1, 1) := by decide +kernel
theorem dX7_row_202 : decode cX7_row 202 = .ok (.lload_n 2, 1) := by decide +kernel
theorem dX7_row_203 : decode cX7_row 203 = .ok (.invokevirtual 69, 3) := by decide +kernel
theorem dX7_row_206 : decode cX7_row 206 = .ok (.goto 275, 3) := by decide +kernel
theorem dX7_row_209 : decode cX7_row 209 = .ok (.aload_n 0, 1) := by decide +kernel
theorem dX7_row_210 : decode cX7_row 210 = .ok (.aload_n 1, 1) := by decide +kernel
theorem dX7_row_211 : decode cX7_row 211 = .ok (.lload_n 2, 1) := by decide +kernel
theorem dX7_row_212 : decode cX7_row 212 = .ok (.invokevirtual 72, 3) := by decide +kernel
theorem dX7_row_215 : decode cX7_row 215 = .ok (.goto 266, 3) := by decide +kernel
theorem dX7_row_218 : decode cX7_row 218 = .ok (.aload_n 0, 1) := by decide +kernel
theorem dX7_row_219 : decode cX7_row 219 = .ok (.aload_n 1, 1) := by decide +kernel
theorem dX7_row_220 : decode cX7_row 220 = .ok (.lload_n 2, 1) := by decide +kernel
theorem dX7_row_221 : decode cX7_row 221 = .ok (.invokevirtual 75, 3) := by decide +kernel
theorem dX7_row_224 : decode cX7_row 224 = .ok (.goto 257, 3) := by decide +kernel
theorem dX7_row_227 : decode cX7_row 227 = .ok (.aload_n 0, 1) := by decide +kernel
theorem dX7_row_228 : decode cX7_row 228 = .ok (.aload_n 1, 1) := by decide +kernel
theorem dX7_row_229 : decode cX7_row 229 = .ok (.lload_n 2, 1) := by decide +kernel
theorem dX7_row_230 : decode cX7_row 230 = .ok (.aload 4, 2) := by decide +kernel
theorem dX7_row_232 : decode cX7_row 232 = .ok (.getfield 57, 3) := by decide +kernel
theorem dX7_row_235 : decode cX7_row 235 = .ok (.i2l, 1) := by decide +kernel
theorem dX7_row_236 : decode cX7_row 236 = .ok (.aload 4, 2) := by decide +kernel
theorem dX7_row_238 : decode cX7_row 238 = .ok (.getfield 78, 3) := by decide +kernel
theorem dX7_row_241 : decode cX7_row 241 = .ok (.i2l, 1) := by decide +kernel
theorem dX7_row_242 : decode cX7_row 242 = .ok (.invokevirtual 81, 3) := by decide +kernel
theorem dX7_row_245 : decode cX7_row 245 = .ok (.goto 236, 3) := by decide +kernel
theorem dX7_row_248 : decode cX7_row 248 = .ok (.aload_n 0, 1) := by decide +kernel
theorem dX7_row_249 : decode cX7_row 249 = .ok (.aload_n 1, 1) := by decide +kernel
theorem dX7_row_250 : decode cX7_row 250 = .ok (.lload_n 2, 1) := by decide +kernel
theorem dX7_row_251 : decode cX7_row 251 = .ok (.invokevirtual 85, 3) := by decide +kernel
theorem dX7_row_254 : decode cX7_row 254 = .ok (.goto 227, 3) := by decide +kernel
theorem dX7_row_257 : decode cX7_row 257 = .ok (.aload_n 0, 1) := by decide +kernel
theorem dX7_row_258 : decode cX7_row 258 = .ok (.aload_n 1, 1) := by decide +kernel
theorem dX7_row_259 : decode cX7_row 259 = .ok (.lload_n 2, 1) := by decide +kernel
theorem dX7_row_260 : decode cX7_row 260 = .ok (.lload_n 2, 1) := by decide +kernel
theorem dX7_row_261 : decode cX7_row 261 = .ok (.aload 4, 2) := by decide +kernel
theorem dX7_row_263 : decode cX7_row 263 = .ok (.getfield 57, 3) := by decide +kernel
theorem dX7_row_266 : decode cX7_row 266 = .ok (.i2l, 1) := by decide +kernel
theorem dX7_row_267 : decode cX7_row 267 = .ok (.invokestatic 88, 3) := by decide +kernel
theorem dX7_row_270 : decode cX7_row 270 = .ok (.lconst 0, 1) := by decide +kernel
theorem dX7_row_271 : decode cX7_row 271 = .ok (.lcmp, 1) := by decide +kernel
theorem dX7_row_272 : decode cX7_row 272 = .ok (.ifCond .ne 7, 3) := by decide +kernel
theorem dX7_row_275 : decode cX7_row 275 = .ok (.iconst 1, 1) := by decide +kernel
theorem dX7_row_276 : decode cX7_row 276 = .ok (.goto 4, 3) := by decide +kernel
theorem dX7_row_279 : decode cX7_row 279 = .ok (.iconst 0, 1) := by decide +kernel
theorem dX7_row_280 : decode cX7_row 280 = .ok (.invokevirtual 91, 3) := by decide +kernel
theorem dX7_row_283 : decode cX7_row 283 = .ok (.goto 198, 3) := by decide +kernel
theorem dX7_row_286 : decode cX7_row 286 = .ok (.aload_n 0, 1) := by decide +kernel
theorem dX7_row_287 : decode cX7_row 287 = .ok (.aload_n 1, 1) := by decide +kernel
theorem dX7_row_288 : decode cX7_row 288 = .ok (.lload_n 2, 1) := by decide +kernel
theorem dX7_row_289 : decode cX7_row 289 = .ok (.lload_n 2, 1) := by decide +kernel
theorem dX7_row_290 : decode cX7_row 290 = .ok (.aload 4, 2) := by decide +kernel
theorem dX7_row_292 : decode cX7_row 292 = .ok (.getfield 57, 3) := by decide +kernel
theorem dX7_row_295 : decode cX7_row 295 = .ok (.i2l, 1) := by decide +kernel
theorem dX7_row_296 : decode cX7_row 296 = .ok (.invokestatic 88, 3) := by decide +kernel
theorem dX7_row_299 : decode cX7_row 299 = .ok (.aload 4, 2) := by decide +kernel
theorem dX7_row_301 : decode cX7_row 301 = .ok (.getfield 78, 3) := by decide +kernel
theorem dX7_row_304 : decode cX7_row 304 = .ok (.i2l, 1) := by decide +kernel
theorem dX7_row_305 : decode cX7_row 305 = .ok (.lcmp, 1) := by decide +kernel
theorem dX7_row_306 : decode cX7_row 306 = .ok (.ifCond .lt 7, 3) := by decide +kernel
theorem dX7_row_309 : decode cX7_row 309 = .ok (.iconst 1, 1) := by decide +kernel
theorem dX7_row_310 : decode cX7_row 310 = .ok (.goto 4, 3) := by decide +kernel
theorem dX7_row_313 : decode cX7_row 313 = .ok (.iconst 0, 1) := by decide +kernel
theorem dX7_row_314 : decode cX7_row 314 = .ok (.invokevirtual 91, 3) := by decide +kernel
theorem dX7_row_317 : decode cX7_row 317 = .ok (.goto 164, 3) := by decide +kernel
theorem dX7_row_320 : decode cX7_row 320 = .ok (.aload_n 0, 1) := by decide +kernel
theorem dX7_row_321 : decode cX7_row 321 = .ok (.aload_n 1, 1) := by decide +kernel
theorem dX7_row_322 : decode cX7_row 322 = .ok (.lload_n 2, 1) := by decide +kernel
theorem dX7_row_323 : decode cX7_row 323 = .ok (.lload_n 2, 1) := by decide +kernel
theorem dX7_row_324 : decode cX7_row 324 = .ok (.aload 4, 2) := by decide +kernel
theorem dX7_row_326 : decode cX7_row 326 = .ok (.getfield 57, 3) := by decide +kernel
theorem dX7_row_329 : decode cX7_row 329 = .ok (.i2l, 1) := by decide +kernel
theorem dX7_row_330 : decode cX7_row 330 = .ok (.invokestatic 88, 3) := by decide +kernel
theorem dX7_row_333 : decode cX7_row 333 = .ok (.aload 4, 2) := by decide +kernel
theorem dX7_row_335 : decode cX7_row 335 = .ok (.getfield 57, 3) := by decide +kernel
theorem dX7_row_338 : decode cX7_row 338 = .ok (.i2l, 1) := by decide +kernel
theorem dX7_row_339 : decode cX7_row 339 = .ok (.invokevirtual 81, 3) := by decide +kernel
theorem dX7_row_342 : decode cX7_row 342 = .ok (.goto 139, 3) := by decide +kernel
theorem dX7_row_345 : decode cX7_row 345 = .ok (.aload_n 0, 1) := by decide +kernel
theorem dX7_row_346 : decode cX7_row 346 = .ok (.aload_n 1, 1) := by decide +kernel
theorem dX7_row_347 : decode cX7_row 347 = .ok (.lload_n 2, 1) := by decide +kernel
theorem dX7_row_348 : decode cX7_row 348 = .ok (.invokevirtual 95, 3) := by decide +kernel
theorem dX7_row_351 : decode cX7_row 351 = .ok (.goto 130, 3) := by decide +kernel
theorem dX7_row_354 : decode cX7_row 354 = .ok (.aload_n 0, 1) := by decide +kernel
theorem dX7_row_355 : decode cX7_row 355 = .ok (.aload_n 1, 1) := by decide +kernel
theorem dX7_row_356 : decode cX7_row 356 = .ok (.lload_n 2, 1) := by decide +kernel
theorem dX7_row_357 : decode cX7_row 357 = .ok (.invokevirtual 98, 3) := by decide +kernel
theorem dX7_row_360 : decode cX7_row 360 = .ok (.goto 121, 3) := by decide +kernel
theorem dX7_row_363 : decode cX7_row 363 = .ok (.aload_n 0, 1) := by decide +kernel
theorem dX7_row_364 : decode cX7_row 364 = .ok (.aload_n 1, 1) := by decide +kernel
theorem dX7_row_365 : decode cX7_row 365 = .ok (.lload_n 2, 1) := by decide +kernel
theorem dX7_row_366 : decode cX7_row 366 = .ok (.aload 4, 2) := by decide +kernel
theorem dX7_row_368 : decode cX7_row 368 = .ok (.getfield 57, 3) := by decide +kernel
theorem dX7_row_371 : decode cX7_row 371 = .ok (.i2l, 1) := by decide +kernel
theorem dX7_row_372 : decode cX7_row 372 = .ok (.aload_n 1, 1) := by decide +kernel
theorem dX7_row_373 : decode cX7_row 373 = .ok (.getfield 101, 3) := by decide +kernel
theorem dX7_row_376 : decode cX7_row 376 = .ok (.lmul, 1) := by decide +kernel
theorem dX7_row_377 : decode cX7_row 377 = .ok (.aload 4, 2) := by decide +kernel
theorem dX7_row_379 : decode cX7_row 379 = .ok (.getfield 78, 3) := by decide +kernel
theorem dX7_row_382 : decode cX7_row 382 = .ok (.i2l, 1) := by decide +kernel
theorem dX7_row_383 : decode cX7_row 383 = .ok (.invokestatic 104, 3) := by decide +kernel
theorem dX7_row_386 : decode cX7_row 386 = .ok (.aload 4, 2) := by decide +kernel
theorem dX7_row_388 : decode cX7_row 388 = .ok (.getfield 107, 3) := by decide +kernel
theorem dX7_row_391 : decode cX7_row 391 = .ok (.i2l, 1) := by decide +kernel
theorem dX7_row_392 : decode cX7_row 392 = .ok (.aload_n 1, 1) := by decide +kernel
theorem dX7_row_393 : decode cX7_row 393 = .ok (.getfield 101, 3) := by decide +kernel
theorem dX7_row_396 : decode cX7_row 396 = .ok (.lmul, 1) := by decide +kernel
theorem dX7_row_397 : decode cX7_row 397 = .ok (.aload 4, 2) := by decide +kernel
theorem dX7_row_399 : decode cX7_row 399 = .ok (.getfield 110, 3) := by decide +kernel
theorem dX7_row_402 : decode cX7_row 402 = .ok (.i2l, 1) := by decide +kernel
theorem dX7_row_403 : decode cX7_row 403 = .ok (.invokestatic 104, 3) := by decide +kernel
theorem dX7_row_406 : decode cX7_row 406 = .ok (.invokevirtual 113, 3) := by decide +kernel
theorem dX7_row_409 : decode cX7_row 409 = .ok (.goto 72, 3) := by decide +kernel
theorem dX7_row_412 : decode cX7_row 412 = .ok (.aload_n 0, 1) := by decide +kernel
theorem dX7_row_413 : decode cX7_row 413 = .ok (.aload_n 1, 1) := by decide +kernel
theorem dX7_row_414 : decode cX7_row 414 = .ok (.lload_n 2, 1) := by decide +kernel
theorem dX7_row_415 : decode cX7_row 415 = .ok (.invokevirtual 116, 3) := by decide +kernel
theorem dX7_row_418 : decode cX7_row 418 = .ok (.goto 63, 3) := by decide +kernel
theorem dX7_row_421 : decode cX7_row 421 = .ok (.aload_n 0, 1) := by decide +kernel
theorem dX7_row_422 : decode cX7_row 422 = .ok (.aload_n 1, 1) := by decide +kernel
theorem dX7_row_423 : decode cX7_row 423 = .ok (.lload_n 2, 1) := by decide +kernel
theorem dX7_row_424 : decode cX7_row 424 = .ok (.invokevirtual 119, 3) := by decide +kernel
theorem dX7_row_427 : decode cX7_row 427 = .ok (.goto 54, 3) := by decide +kernel
theorem dX7_row_430 : decode cX7_row 430 = .ok (.aload_n 0, 1) := by decide +kernel
theorem dX7_row_431 : decode cX7_row 431 = .ok (.aload_n 1, 1) := by decide +kernel
theorem dX7_row_432 : decode cX7_row 432 = .ok (.lload_n 2, 1) := by decide +kernel
theorem dX7_row_433 : decode cX7_row 433 = .ok (.invokevirtual 122, 3) := by decide +kernel
theorem dX7_row_436 : decode cX7_row 436 = .ok (.goto 45, 3) := by decide +kernel
theorem dX7_row_439 : decode cX7_row 439 = .ok (.aload_n 0, 1) := by decide +kernel
theorem dX7_row_440 : decode cX7_row 440 = .ok (.aload_n 1, 1) := by decide +kernel
theorem dX7_row_441 : decode cX7_row 441 = .ok (.lload_n 2, 1) := by decide +kernel
theorem dX7_row_442 : decode cX7_row 442 = .ok (.aload_n 1, 1) := by decide +kernel
theorem dX7_row_443 : decode cX7_row 443 = .ok (.getfield 125, 3) := by decide +kernel
theorem dX7_row_446 : decode cX7_row 446 = .ok (.iconst 0, 1) := by decide +kernel
theorem dX7_row_447 : decode cX7_row 447 = .ok (.aaload, 1) := by decide +kernel
theorem dX7_row_448 : decode cX7_row 448 = .ok (.aload_n 1, 1) := by decide +kernel
theorem dX7_row_449 : decode cX7_row 449 = .ok (.getfield 125, 3) := by decide +kernel
theorem dX7_row_452 : decode cX7_row 452 = .ok (.iconst 1, 1) := by decide +kernel
theorem dX7_row_453 : decode cX7_row 453 = .ok (.aaload, 1) := by decide +kernel
theorem dX7_row_454 : decode cX7_row 454 = .ok (.invokevirtual 129, 3) := by decide +kernel
theorem dX7_row_457 : decode cX7_row 457 = .ok (.goto 24, 3) := by decide +kernel
theorem dX7_row_460 : decode cX7_row 460 = .ok (.aload_n 0, 1) := by decide +kernel
theorem dX7_row_461 : decode cX7_row 461 = .ok (.aload_n 1, 1) := by decide +kernel
theorem dX7_row_462 : decode cX7_row 462 = .ok (.lload_n 2, 1) := by decide +kernel
theorem dX7_row_463 : decode cX7_row 463 = .ok (.aload_n 1, 1) := by decide +kernel
theorem dX7_row_464 : decode cX7_row 464 = .ok (.getfield 125, 3) := by decide +kernel
theorem dX7_row_467 : decode cX7_row 467 = .ok (.iconst 1, 1) := by decide +kernel
theorem dX7_row_468 : decode cX7_row 468 = .ok (.aaload, 1) := by decide +kernel
theorem dX7_row_469 : decode cX7_row 469 = .ok (.aload_n 1, 1) := by decide +kernel
theorem dX7_row_470 : decode cX7_row 470 = .ok (.getfield 125, 3) := by decide +kernel
theorem dX7_row_473 : decode cX7_row 473 = .ok (.iconst 0, 1) := by decide +kernel
theorem dX7_row_474 : decode cX7_row 474 = .ok (.aaload, 1) := by decide +kernel
theorem dX7_row_475 : decode cX7_row 475 = .ok (.invokevirtual 129, 3) := by decide +kernel
theorem dX7_row_478 : decode cX7_row 478 = .ok (.goto 3, 3) := by decide +kernel
theorem dX7_row_481 : decode cX7_row 481 = .ok (.return_, 1) := by decide +kernel
theorem dX7_sequence_0 : decode cX7_sequence 0 = .ok (.aload_n 1, 1) := by decide +kernel
theorem dX7_sequence_1 : decode cX7_sequence 1 = .ok (.getfield 41, 3) := by decide +kernel
theorem dX7_sequence_4 : decode cX7_sequence 4 = .ok (.astore 4, 2) := by decide +kernel
theorem dX7_sequence_6 : decode cX7_sequence 6 = .ok (.aload_n 1, 1) := by decide +kernel
theorem dX7_sequence_7 : decode cX7_sequence 7 = .ok (.getfield 101, 3) := by decide +kernel
theorem dX7_sequence_10 : decode cX7_sequence 10 = .ok (.iconst 1, 1) := by decide +kernel
theorem dX7_sequence_11 : decode cX7_sequence 11 = .ok (.aload 4, 2) := by decide +kernel
theorem dX7_sequence_13 : decode cX7_sequence 13 = .ok (.getfield 57, 3) := by decide +kernel
theorem dX7_sequence_16 : decode cX7_sequence 16 = .ok (.invokestatic 133, 3) := by decide +kernel
theorem dX7_sequence_19 : decode cX7_sequence 19 = .ok (.i2l, 1) := by decide +kernel
theorem dX7_sequence_20 : decode cX7_sequence 20 = .ok (.ldiv, 1) := by decide +kernel
theorem dX7_sequence_21 : decode cX7_sequence 21 = .ok (.lstore 5, 2) := by decide +kernel
theorem dX7_sequence_23 : decode cX7_sequence 23 = .ok (.lconst 0, 1) := by decide +kernel
theorem dX7_sequence_24 : decode cX7_sequence 24 = .ok (.lstore 7, 2) := by decide +kernel
theorem dX7_sequence_26 : decode cX7_sequence 26 = .ok (.iconst 0, 1) := by decide +kernel
theorem dX7_sequence_27 : decode cX7_sequence 27 = .ok (.istore 9, 2) := by decide +kernel
theorem dX7_sequence_29 : decode cX7_sequence 29 = .ok (.iload 9, 2) := by decide +kernel
theorem dX7_sequence_31 : decode cX7_sequence 31 = .ok (.aload_n 1, 1) := by decide +kernel
theorem dX7_sequence_32 : decode cX7_sequence 32 = .ok (.getfield 125, 3) := by decide +kernel
theorem dX7_sequence_35 : decode cX7_sequence 35 = .ok (.arraylength, 1) := by decide +kernel
theorem dX7_sequence_36 : decode cX7_sequence 36 = .ok (.if_icmp .ge 207, 3) := by decide +kernel
theorem dX7_sequence_39 : decode cX7_sequence 39 = .ok (.aload_n 1, 1) := by decide +kernel
theorem dX7_sequence_40 : decode cX7_sequence 40 = .ok (.getfield 125, 3) := by decide +kernel
theorem dX7_sequence_43 : decode cX7_sequence 43 = .ok (.iload 9, 2) := by decide +kernel
theorem dX7_sequence_45 : decode cX7_sequence 45 = .ok (.aaload, 1) := by decide +kernel
theorem dX7_sequence_46 : decode cX7_sequence 46 = .ok (.astore 10, 2) := by decide +kernel
theorem dX7_sequence_48 : decode cX7_sequence 48 = .ok (.aload 4, 2) := by decide +kernel
theorem dX7_sequence_50 : decode cX7_sequence 50 = .ok (.getfield 137, 3) := by decide +kernel
theorem dX7_sequence_53 : decode cX7_sequence 53 = .ok (.iload 9, 2) := by decide +kernel
theorem dX7_sequence_55 : decode cX7_sequence 55 = .ok (.iaload, 1) := by decide +kernel
theorem dX7_sequence_56 : decode cX7_sequence 56 = .ok (.i2l, 1) := by decide +kernel
theorem dX7_sequence_57 : decode cX7_sequence 57 = .ok (.lstore 11, 2) := by decide +kernel
theorem dX7_sequence_59 : decode cX7_sequence 59 = .ok (.lload 11, 2) := by decide +kernel
theorem dX7_sequence_61 : decode cX7_sequence 61 = .ok (.lload 5, 2) := by decide +kernel
theorem dX7_sequence_63 : decode cX7_sequence 63 = .ok (.aload 10, 2) := by decide +kernel
theorem dX7_sequence_65 : decode cX7_sequence 65 = .ok (.getfield 101, 3) := by decide +kernel
theorem dX7_sequence_68 : decode cX7_sequence 68 = .ok (.ldiv, 1) := by decide +kernel
theorem dX7_sequence_69 : decode cX7_sequence 69 = .ok (.lmul, 1) := by decide +kernel
theorem dX7_sequence_70 : decode cX7_sequence 70 = .ok (.lstore 13, 2) := by decide +kernel
theorem dX7_sequence_72 : decode cX7_sequence 72 = .ok (.aload_n 0, 1) := by decide +kernel
theorem dX7_sequence_73 : decode cX7_sequence 73 = .ok (.getfield 12, 3) := by decide +kernel
theorem dX7_sequence_76 : decode cX7_sequence 76 = .ok (.getfield 28, 3) := by decide +kernel
theorem dX7_sequence_79 : decode cX7_sequence 79 = .ok (.istore 15, 2) := by decide +kernel
theorem dX7_sequence_81 : decode cX7_sequence 81 = .ok (.aload_n 0, 1) := by decide +kernel
theorem dX7_sequence_82 : decode cX7_sequence 82 = .ok (.aload 10, 2) := by decide +kernel
theorem dX7_sequence_84 : decode cX7_sequence 84 = .ok (.lload_n 2, 1) := by decide +kernel
theorem dX7_sequence_85 : decode cX7_sequence 85 = .ok (.invokevirtual 31, 3) := by decide +kernel
theorem dX7_sequence_88 : decode cX7_sequence 88 = .ok (.aload_n 0, 1) := by decide +kernel
theorem dX7_sequence_89 : decode cX7_sequence 89 = .ok (.getfield 12, 3) := by decide +kernel
theorem dX7_sequence_92 : decode cX7_sequence 92 = .ok (.getfield 28, 3) := by decide +kernel
theorem dX7_sequence_95 : decode cX7_sequence 95 = .ok (.istore 16, 2) := by decide +kernel
theorem dX7_sequence_97 : decode cX7_sequence 97 = .ok (.iconst 1, 1) := by decide +kernel
theorem dX7_sequence_98 : decode cX7_sequence 98 = .ok (.istore 17, 2) := by decide +kernel
theorem dX7_sequence_100 : decode cX7_sequence 100 = .ok (.iload 17, 2) := by decide +kernel
theorem dX7_sequence_102 : decode cX7_sequence 102 = .ok (.aload 4, 2) := by decide +kernel
theorem dX7_sequence_104 : decode cX7_sequence 104 = .ok (.getfield 141, 3) := by decide +kernel
theorem dX7_sequence_107 : decode cX7_sequence 107 = .ok (.iload 9, 2) := by decide +kernel
theorem dX7_sequence_109 : decode cX7_sequence 109 = .ok (.iaload, 1) := by decide +kernel
theorem dX7_sequence_110 : decode cX7_sequence 110 = .ok (.if_icmp .ge 41, 3) := by decide +kernel
theorem dX7_sequence_113 : decode cX7_sequence 113 = .ok (.iload 16, 2) := by decide +kernel
theorem dX7_sequence_115 : decode cX7_sequence 115 = .ok (.iload 15, 2) := by decide +kernel
theorem dX7_sequence_117 : decode cX7_sequence 117 = .ok (.if_icmp .le 34, 3) := by decide +kernel
theorem dX7_sequence_120 : decode cX7_sequence 120 = .ok (.aload_n 0, 1) := by decide +kernel
theorem dX7_sequence_121 : decode cX7_sequence 121 = .ok (.getfield 12, 3) := by decide +kernel
theorem dX7_sequence_124 : decode cX7_sequence 124 = .ok (.iload 15, 2) := by decide +kernel
theorem dX7_sequence_126 : decode cX7_sequence 126 = .ok (.iload 16, 2) := by decide +kernel
theorem dX7_sequence_128 : decode cX7_sequence 128 = .ok (.lload 13, 2) := by decide +kernel
theorem dX7_sequence_130 : decode cX7_sequence 130 = .ok (.lload 7, 2) := by decide +kernel
theorem dX7_sequence_132 : decode cX7_sequence 132 = .ok (.iload 17, 2) := by decide +kernel
theorem dX7_sequence_134 : decode cX7_sequence 134 = .ok (.i2l, 1) := by decide +kernel
theorem dX7_sequence_135 : decode cX7_sequence 135 = .ok (.lload 11, 2) := by decide +kernel
theorem dX7_sequence_137 : decode cX7_sequence 137 = .ok (.lmul, 1) := by decide +kernel
theorem dX7_sequence_138 : decode cX7_sequence 138 = .ok (.ladd, 1) := by decide +kernel
theorem dX7_sequence_139 : decode cX7_sequence 139 = .ok (.lload 5, 2) := by decide +kernel
theorem dX7_sequence_141 : decode cX7_sequence 141 = .ok (.lmul, 1) := by decide +kernel
theorem dX7_sequence_142 : decode cX7_sequence 142 = .ok (.invokevirtual 144, 3) := by decide +kernel
theorem dX7_sequence_145 : decode cX7_sequence 145 = .ok (.iinc 17 1, 3) := by decide +kernel
theorem dX7_sequence_148 : decode cX7_sequence 148 = .ok (.goto (-48), 3) := by decide +kernel
theorem dX7_sequence_151 : decode cX7_sequence 151 = .ok (.iload 15, 2) := by decide +kernel
theorem dX7_sequence_153 : decode cX7_sequence 153 = .ok (.istore 17, 2) := by decide +kernel
theorem dX7_sequence_155 : decode cX7_sequence 155 = .ok (.iload 17, 2) := by decide +kernel
theorem dX7_sequence_157 : decode cX7_sequence 157 = .ok (.iload 16, 2) := by decide +kernel
theorem dX7_sequence_159 : decode cX7_sequence 159 = .ok (.if_icmp .ge 61, 3) := by decide +kernel
theorem dX7_sequence_162 : decode cX7_sequence 162 = .ok (.aload_n 0, 1) := by decide +kernel
theorem dX7_sequence_163 : decode cX7_sequence 163 = .ok (.getfield 12, 3) := by decide +kernel
theorem dX7_sequence_166 : decode cX7_sequence 166 = .ok (.getfield 148, 3) := by decide +kernel
theorem dX7_sequence_169 : decode cX7_sequence 169 = .ok (.iload 17, 2) := by decide +kernel
theorem dX7_sequence_171 : decode cX7_sequence 171 = .ok (.aload_n 0, 1) := by decide +kernel
theorem dX7_sequence_172 : decode cX7_sequence 172 = .ok (.getfield 12, 3) := by decide +kernel
theorem dX7_sequence_175 : decode cX7_sequence 175 = .ok (.getfield 148, 3) := by decide +kernel
theorem dX7_sequence_178 : decode cX7_sequence 178 = .ok (.iload 17, 2) := by decide +kernel
theorem dX7_sequence_180 : decode cX7_sequence 180 = .ok (.laload, 1) := by decide +kernel
theorem dX7_sequence_181 : decode cX7_sequence 181 = .ok (.lload 13, 2) := by decide +kernel
theorem dX7_sequence_183 : decode cX7_sequence 183 = .ok (.lmul, 1) := by decide +kernel
theorem dX7_sequence_184 : decode cX7_sequence 184 = .ok (.lload 7, 2) := by decide +kernel
theorem dX7_sequence_186 : decode cX7_sequence 186 = .ok (.lload 5, 2) := by decide +kernel
theorem dX7_sequence_188 : decode cX7_sequence 188 = .ok (.lmul, 1) := by decide +kernel
theorem dX7_sequence_189 : decode cX7_sequence 189 = .ok (.ladd, 1) := by decide +kernel
theorem dX7_sequence_190 : decode cX7_sequence 190 = .ok (.lastore, 1) := by decide +kernel
theorem dX7_sequence_191 : decode cX7_sequence 191 = .ok (.aload_n 0, 1) := by decide +kernel
theorem dX7_sequence_192 : decode cX7_sequence 192 = .ok (.getfield 12, 3) := by decide +kernel
theorem dX7_sequence_195 : decode cX7_sequence 195 = .ok (.getfield 152, 3) := by decide +kernel
theorem dX7_sequence_198 : decode cX7_sequence 198 = .ok (.iload 17, 2) := by decide +kernel
theorem dX7_sequence_200 : decode cX7_sequence 200 = .ok (.aload_n 0, 1) := by decide +kernel
theorem dX7_sequence_201 : decode cX7_sequence 201 = .ok (.getfield 12, 3) := by decide +kernel
theorem dX7_sequence_204 : decode cX7_sequence 204 = .ok (.getfield 152, 3) := by decide +kernel
theorem dX7_sequence_207 : decode cX7_sequence 207 = .ok (.iload 17, 2) := by decide +kernel
theorem dX7_sequence_209 : decode cX7_sequence 209 = .ok (.laload, 1) := by decide +kernel
theorem dX7_sequence_210 : decode cX7_sequence 210 = .ok (.lload 13, 2) := by decide +kernel
theorem dX7_sequence_212 : decode cX7_sequence 212 = .ok (.lmul, 1) := by decide +kernel
theorem dX7_sequence_213 : decode cX7_sequence 213 = .ok (.lastore, 1) := by decide +kernel
theorem dX7_sequence_214 : decode cX7_sequence 214 = .ok (.iinc 17 1, 3) := by decide +kernel
theorem dX7_sequence_217 : decode cX7_sequence 217 = .ok (.goto (-62), 3) := by decide +kernel
theorem dX7_sequence_220 : decode cX7_sequence 220 = .ok (.lload 7, 2) := by decide +kernel
theorem dX7_sequence_222 : decode cX7_sequence 222 = .ok (.lload 11, 2) := by decide +kernel
theorem dX7_sequence_224 : decode cX7_sequence 224 = .ok (.aload 4, 2) := by decide +kernel
theorem dX7_sequence_226 : decode cX7_sequence 226 = .ok (.getfield 141, 3) := by decide +kernel
theorem dX7_sequence_229 : decode cX7_sequence 229 = .ok (.iload 9, 2) := by decide +kernel
theorem dX7_sequence_231 : decode cX7_sequence 231 = .ok (.iaload, 1) := by decide +kernel
theorem dX7_sequence_232 : decode cX7_sequence 232 = .ok (.i2l, 1) := by decide +kernel
theorem dX7_sequence_233 : decode cX7_sequence 233 = .ok (.lmul, 1) := by decide +kernel
theorem dX7_sequence_234 : decode cX7_sequence 234 = .ok (.ladd, 1) := by decide +kernel
theorem dX7_sequence_235 : decode cX7_sequence 235 = .ok (.lstore 7, 2) := by decide +kernel
theorem dX7_sequence_237 : decode cX7_sequence 237 = .ok (.iinc 9 1, 3) := by decide +kernel
theorem dX7_sequence_240 : decode cX7_sequence 240 = .ok (.goto (-211), 3) := by decide +kernel
theorem dX7_sequence_243 : decode cX7_sequence 243 = .ok (.return_, 1) := by decide +kernel
theorem dX7_partAt_0 : decode cX7_partAt 0 = .ok (.iconst 0, 1) := by decide +kernel
theorem dX7_partAt_1 : decode cX7_partAt 1 = .ok (.istore_n 3, 1) := by decide +kernel
theorem dX7_partAt_2 : decode cX7_partAt 2 = .ok (.aload_n 0, 1) := by decide +kernel
theorem dX7_partAt_3 : decode cX7_partAt 3 = .ok (.getfield 125, 3) := by decide +kernel
theorem dX7_partAt_6 : decode cX7_partAt 6 = .ok (.arraylength, 1) := by decide +kernel
theorem dX7_partAt_7 : decode cX7_partAt 7 = .ok (.iconst 1, 1) := by decide +kernel
theorem dX7_partAt_8 : decode cX7_partAt 8 = .ok (.isub, 1) := by decide +kernel
theorem dX7_partAt_9 : decode cX7_partAt 9 = .ok (.istore 4, 2) := by decide +kernel
theorem dX7_partAt_11 : decode cX7_partAt 11 = .ok (.iload_n 3, 1) := by decide +kernel
theorem dX7_partAt_12 : decode cX7_partAt 12 = .ok (.iload 4, 2) := by decide +kernel
theorem dX7_partAt_14 : decode cX7_partAt 14 = .ok (.if_icmp .ge 42, 3) := by decide +kernel
theorem dX7_partAt_17 : decode cX7_partAt 17 = .ok (.iload_n 3, 1) := by decide +kernel
theorem dX7_partAt_18 : decode cX7_partAt 18 = .ok (.iload 4, 2) := by decide +kernel
theorem dX7_partAt_20 : decode cX7_partAt 20 = .ok (.iadd, 1) := by decide +kernel
theorem dX7_partAt_21 : decode cX7_partAt 21 = .ok (.iconst 2, 1) := by decide +kernel
theorem dX7_partAt_22 : decode cX7_partAt 22 = .ok (.idiv, 1) := by decide +kernel
theorem dX7_partAt_23 : decode cX7_partAt 23 = .ok (.istore 5, 2) := by decide +kernel
theorem dX7_partAt_25 : decode cX7_partAt 25 = .ok (.lload_n 1, 1) := by decide +kernel
theorem dX7_partAt_26 : decode cX7_partAt 26 = .ok (.aload_n 0, 1) := by decide +kernel
theorem dX7_partAt_27 : decode cX7_partAt 27 = .ok (.getfield 41, 3) := by decide +kernel
theorem dX7_partAt_30 : decode cX7_partAt 30 = .ok (.getfield 155, 3) := by decide +kernel
theorem dX7_partAt_33 : decode cX7_partAt 33 = .ok (.iload 5, 2) := by decide +kernel
theorem dX7_partAt_35 : decode cX7_partAt 35 = .ok (.iaload, 1) := by decide +kernel
theorem dX7_partAt_36 : decode cX7_partAt 36 = .ok (.i2l, 1) := by decide +kernel
theorem dX7_partAt_37 : decode cX7_partAt 37 = .ok (.lcmp, 1) := by decide +kernel
theorem dX7_partAt_38 : decode cX7_partAt 38 = .ok (.ifCond .ge 10, 3) := by decide +kernel
theorem dX7_partAt_41 : decode cX7_partAt 41 = .ok (.iload 5, 2) := by decide +kernel
theorem dX7_partAt_43 : decode cX7_partAt 43 = .ok (.istore 4, 2) := by decide +kernel
theorem dX7_partAt_45 : decode cX7_partAt 45 = .ok (.goto 8, 3) := by decide +kernel
theorem dX7_partAt_48 : decode cX7_partAt 48 = .ok (.iload 5, 2) := by decide +kernel
theorem dX7_partAt_50 : decode cX7_partAt 50 = .ok (.iconst 1, 1) := by decide +kernel
theorem dX7_partAt_51 : decode cX7_partAt 51 = .ok (.iadd, 1) := by decide +kernel
theorem dX7_partAt_52 : decode cX7_partAt 52 = .ok (.istore_n 3, 1) := by decide +kernel
theorem dX7_partAt_53 : decode cX7_partAt 53 = .ok (.goto (-42), 3) := by decide +kernel
theorem dX7_partAt_56 : decode cX7_partAt 56 = .ok (.aload_n 0, 1) := by decide +kernel
theorem dX7_partAt_57 : decode cX7_partAt 57 = .ok (.getfield 125, 3) := by decide +kernel
theorem dX7_partAt_60 : decode cX7_partAt 60 = .ok (.iload_n 3, 1) := by decide +kernel
theorem dX7_partAt_61 : decode cX7_partAt 61 = .ok (.aaload, 1) := by decide +kernel
theorem dX7_partAt_62 : decode cX7_partAt 62 = .ok (.areturn, 1) := by decide +kernel
theorem dX7_turn_0 : decode cX7_turn 0 = .ok (.iconst 1, 1) := by decide +kernel
theorem dX7_turn_1 : decode cX7_turn 1 = .ok (.aload_n 1, 1) := by decide +kernel
theorem dX7_turn_2 : decode cX7_turn 2 = .ok (.getfield 41, 3) := by decide +kernel
theorem dX7_turn_5 : decode cX7_turn 5 = .ok (.getfield 57, 3) := by decide +kernel
theorem dX7_turn_8 : decode cX7_turn 8 = .ok (.invokestatic 133, 3) := by decide +kernel
theorem dX7_turn_11 : decode cX7_turn 11 = .ok (.i2l, 1) := by decide +kernel
theorem dX7_turn_12 : decode cX7_turn 12 = .ok (.lstore 4, 2) := by decide +kernel
theorem dX7_turn_14 : decode cX7_turn 14 = .ok (.aload_n 1, 1) := by decide +kernel
theorem dX7_turn_15 : decode cX7_turn 15 = .ok (.lload_n 2, 1) := by decide +kernel
theorem dX7_turn_16 : decode cX7_turn 16 = .ok (.lload 4, 2) := by decide +kernel
theorem dX7_turn_18 : decode cX7_turn 18 = .ok (.invokestatic 88, 3) := by decide +kernel
theorem dX7_turn_21 : decode cX7_turn 21 = .ok (.invokestatic 158, 3) := by decide +kernel
theorem dX7_turn_24 : decode cX7_turn 24 = .ok (.astore 6, 2) := by decide +kernel
theorem dX7_turn_26 : decode cX7_turn 26 = .ok (.aload_n 0, 1) := by decide +kernel
theorem dX7_turn_27 : decode cX7_turn 27 = .ok (.getfield 12, 3) := by decide +kernel
theorem dX7_turn_30 : decode cX7_turn 30 = .ok (.getfield 28, 3) := by decide +kernel
theorem dX7_turn_33 : decode cX7_turn 33 = .ok (.istore 7, 2) := by decide +kernel
theorem dX7_turn_35 : decode cX7_turn 35 = .ok (.aload_n 0, 1) := by decide +kernel
theorem dX7_turn_36 : decode cX7_turn 36 = .ok (.aload 6, 2) := by decide +kernel
theorem dX7_turn_38 : decode cX7_turn 38 = .ok (.lload_n 2, 1) := by decide +kernel
theorem dX7_turn_39 : decode cX7_turn 39 = .ok (.lload 4, 2) := by decide +kernel
theorem dX7_turn_41 : decode cX7_turn 41 = .ok (.invokestatic 22, 3) := by decide +kernel
theorem dX7_turn_44 : decode cX7_turn 44 = .ok (.invokevirtual 31, 3) := by decide +kernel
theorem dX7_turn_47 : decode cX7_turn 47 = .ok (.aload_n 0, 1) := by decide +kernel
theorem dX7_turn_48 : decode cX7_turn 48 = .ok (.getfield 12, 3) := by decide +kernel
theorem dX7_turn_51 : decode cX7_turn 51 = .ok (.iload 7, 2) := by decide +kernel
theorem dX7_turn_53 : decode cX7_turn 53 = .ok (.aload_n 1, 1) := by decide +kernel
theorem dX7_turn_54 : decode cX7_turn 54 = .ok (.getfield 101, 3) := by decide +kernel
theorem dX7_turn_57 : decode cX7_turn 57 = .ok (.aload 6, 2) := by decide +kernel
theorem dX7_turn_59 : decode cX7_turn 59 = .ok (.getfield 101, 3) := by decide +kernel
theorem dX7_turn_62 : decode cX7_turn 62 = .ok (.ldiv, 1) := by decide +kernel
theorem dX7_turn_63 : decode cX7_turn 63 = .ok (.lconst 0, 1) := by decide +kernel
theorem dX7_turn_64 : decode cX7_turn 64 = .ok (.invokevirtual 162, 3) := by decide +kernel
theorem dX7_turn_67 : decode cX7_turn 67 = .ok (.return_, 1) := by decide +kernel
theorem dX7_poly_0 : decode cX7_poly 0 = .ok (.iconst 1, 1) := by decide +kernel
theorem dX7_poly_1 : decode cX7_poly 1 = .ok (.aload_n 1, 1) := by decide +kernel
theorem dX7_poly_2 : decode cX7_poly 2 = .ok (.getfield 41, 3) := by decide +kernel
theorem dX7_poly_5 : decode cX7_poly 5 = .ok (.getfield 57, 3) := by decide +kernel
theorem dX7_poly_8 : decode cX7_poly 8 = .ok (.invokestatic 133, 3) := by decide +kernel
theorem dX7_poly_11 : decode cX7_poly 11 = .ok (.i2l, 1) := by decide +kernel
theorem dX7_poly_12 : decode cX7_poly 12 = .ok (.lstore 4, 2) := by decide +kernel
theorem dX7_poly_14 : decode cX7_poly 14 = .ok (.iconst 1, 1) := by decide +kernel
theorem dX7_poly_15 : decode cX7_poly 15 = .ok (.aload_n 1, 1) := by decide +kernel
theorem dX7_poly_16 : decode cX7_poly 16 = .ok (.getfield 41, 3) := by decide +kernel
theorem dX7_poly_19 : decode cX7_poly 19 = .ok (.getfield 78, 3) := by decide +kernel
theorem dX7_poly_22 : decode cX7_poly 22 = .ok (.invokestatic 133, 3) := by decide +kernel
theorem dX7_poly_25 : decode cX7_poly 25 = .ok (.i2l, 1) := by decide +kernel
theorem dX7_poly_26 : decode cX7_poly 26 = .ok (.lstore 6, 2) := by decide +kernel
theorem dX7_poly_28 : decode cX7_poly 28 = .ok (.aload_n 1, 1) := by decide +kernel
theorem dX7_poly_29 : decode cX7_poly 29 = .ok (.getfield 101, 3) := by decide +kernel
theorem dX7_poly_32 : decode cX7_poly 32 = .ok (.lload 6, 2) := by decide +kernel
theorem dX7_poly_34 : decode cX7_poly 34 = .ok (.ldiv, 1) := by decide +kernel
theorem dX7_poly_35 : decode cX7_poly 35 = .ok (.lstore 8, 2) := by decide +kernel
theorem dX7_poly_37 : decode cX7_poly 37 = .ok (.lconst 0, 1) := by decide +kernel
theorem dX7_poly_38 : decode cX7_poly 38 = .ok (.lstore 10, 2) := by decide +kernel
theorem dX7_poly_40 : decode cX7_poly 40 = .ok (.lload 10, 2) := by decide +kernel
theorem dX7_poly_42 : decode cX7_poly 42 = .ok (.lload 6, 2) := by decide +kernel
theorem dX7_poly_44 : decode cX7_poly 44 = .ok (.lcmp, 1) := by decide +kernel
theorem dX7_poly_45 : decode cX7_poly 45 = .ok (.ifCond .ge 78, 3) := by decide +kernel
theorem dX7_poly_48 : decode cX7_poly 48 = .ok (.lload_n 2, 1) := by decide +kernel
theorem dX7_poly_49 : decode cX7_poly 49 = .ok (.lload 6, 2) := by decide +kernel
theorem dX7_poly_51 : decode cX7_poly 51 = .ok (.lmul, 1) := by decide +kernel
theorem dX7_poly_52 : decode cX7_poly 52 = .ok (.lload 10, 2) := by decide +kernel
theorem dX7_poly_54 : decode cX7_poly 54 = .ok (.ladd, 1) := by decide +kernel
theorem dX7_poly_55 : decode cX7_poly 55 = .ok (.lstore 12, 2) := by decide +kernel
theorem dX7_poly_57 : decode cX7_poly 57 = .ok (.aload_n 1, 1) := by decide +kernel
theorem dX7_poly_58 : decode cX7_poly 58 = .ok (.lload 12, 2) := by decide +kernel
theorem dX7_poly_60 : decode cX7_poly 60 = .ok (.lload 4, 2) := by decide +kernel
theorem dX7_poly_62 : decode cX7_poly 62 = .ok (.invokestatic 88, 3) := by decide +kernel
theorem dX7_poly_65 : decode cX7_poly 65 = .ok (.invokestatic 158, 3) := by decide +kernel
theorem dX7_poly_68 : decode cX7_poly 68 = .ok (.astore 14, 2) := by decide +kernel
theorem dX7_poly_70 : decode cX7_poly 70 = .ok (.aload_n 0, 1) := by decide +kernel
theorem dX7_poly_71 : decode cX7_poly 71 = .ok (.getfield 12, 3) := by decide +kernel
theorem dX7_poly_74 : decode cX7_poly 74 = .ok (.getfield 28, 3) := by decide +kernel
theorem dX7_poly_77 : decode cX7_poly 77 = .ok (.istore 15, 2) := by decide +kernel
theorem dX7_poly_79 : decode cX7_poly 79 = .ok (.aload_n 0, 1) := by decide +kernel
theorem dX7_poly_80 : decode cX7_poly 80 = .ok (.aload 14, 2) := by decide +kernel
theorem dX7_poly_82 : decode cX7_poly 82 = .ok (.lload 12, 2) := by decide +kernel
theorem dX7_poly_84 : decode cX7_poly 84 = .ok (.lload 4, 2) := by decide +kernel
theorem dX7_poly_86 : decode cX7_poly 86 = .ok (.invokestatic 22, 3) := by decide +kernel
theorem dX7_poly_89 : decode cX7_poly 89 = .ok (.invokevirtual 31, 3) := by decide +kernel
theorem dX7_poly_92 : decode cX7_poly 92 = .ok (.aload_n 0, 1) := by decide +kernel
theorem dX7_poly_93 : decode cX7_poly 93 = .ok (.getfield 12, 3) := by decide +kernel
theorem dX7_poly_96 : decode cX7_poly 96 = .ok (.iload 15, 2) := by decide +kernel
theorem dX7_poly_98 : decode cX7_poly 98 = .ok (.lload 8, 2) := by decide +kernel
theorem dX7_poly_100 : decode cX7_poly 100 = .ok (.aload 14, 2) := by decide +kernel
theorem dX7_poly_102 : decode cX7_poly 102 = .ok (.getfield 101, 3) := by decide +kernel
theorem dX7_poly_105 : decode cX7_poly 105 = .ok (.ldiv, 1) := by decide +kernel
theorem dX7_poly_106 : decode cX7_poly 106 = .ok (.lload 10, 2) := by decide +kernel
theorem dX7_poly_108 : decode cX7_poly 108 = .ok (.lload 8, 2) := by decide +kernel
theorem dX7_poly_110 : decode cX7_poly 110 = .ok (.lmul, 1) := by decide +kernel
theorem dX7_poly_111 : decode cX7_poly 111 = .ok (.invokevirtual 162, 3) := by decide +kernel
theorem dX7_poly_114 : decode cX7_poly 114 = .ok (.lload 10, 2) := by decide +kernel
theorem dX7_poly_116 : decode cX7_poly 116 = .ok (.lconst 1, 1) := by decide +kernel
theorem dX7_poly_117 : decode cX7_poly 117 = .ok (.ladd, 1) := by decide +kernel
theorem dX7_poly_118 : decode cX7_poly 118 = .ok (.lstore 10, 2) := by decide +kernel
theorem dX7_poly_120 : decode cX7_poly 120 = .ok (.goto (-80), 3) := by decide +kernel
theorem dX7_poly_123 : decode cX7_poly 123 = .ok (.return_, 1) := by decide +kernel
theorem dX7_euclid_0 : decode cX7_euclid 0 = .ok (.aload_n 1, 1) := by decide +kernel
theorem dX7_euclid_1 : decode cX7_euclid 1 = .ok (.getfield 41, 3) := by decide +kernel
theorem dX7_euclid_4 : decode cX7_euclid 4 = .ok (.astore 4, 2) := by decide +kernel
theorem dX7_euclid_6 : decode cX7_euclid 6 = .ok (.aload_n 1, 1) := by decide +kernel
theorem dX7_euclid_7 : decode cX7_euclid 7 = .ok (.getfield 125, 3) := by decide +kernel
theorem dX7_euclid_10 : decode cX7_euclid 10 = .ok (.iconst 0, 1) := by decide +kernel
theorem dX7_euclid_11 : decode cX7_euclid 11 = .ok (.aaload, 1) := by decide +kernel
theorem dX7_euclid_12 : decode cX7_euclid 12 = .ok (.astore 5, 2) := by decide +kernel
theorem dX7_euclid_14 : decode cX7_euclid 14 = .ok (.iconst 1, 1) := by decide +kernel
theorem dX7_euclid_15 : decode cX7_euclid 15 = .ok (.aload 4, 2) := by decide +kernel
theorem dX7_euclid_17 : decode cX7_euclid 17 = .ok (.getfield 78, 3) := by decide +kernel
theorem dX7_euclid_20 : decode cX7_euclid 20 = .ok (.invokestatic 133, 3) := by decide +kernel
theorem dX7_euclid_23 : decode cX7_euclid 23 = .ok (.istore 6, 2) := by decide +kernel
theorem dX7_euclid_25 : decode cX7_euclid 25 = .ok (.aload_n 0, 1) := by decide +kernel
theorem dX7_euclid_26 : decode cX7_euclid 26 = .ok (.getfield 12, 3) := by decide +kernel
theorem dX7_euclid_29 : decode cX7_euclid 29 = .ok (.getfield 28, 3) := by decide +kernel
theorem dX7_euclid_32 : decode cX7_euclid 32 = .ok (.istore 7, 2) := by decide +kernel
theorem dX7_euclid_34 : decode cX7_euclid 34 = .ok (.iload 7, 2) := by decide +kernel
theorem dX7_euclid_36 : decode cX7_euclid 36 = .ok (.istore 8, 2) := by decide +kernel
theorem dX7_euclid_38 : decode cX7_euclid 38 = .ok (.ldc2_w 166, 3) := by decide +kernel
theorem dX7_euclid_41 : decode cX7_euclid 41 = .ok (.lstore 9, 2) := by decide +kernel
theorem dX7_euclid_43 : decode cX7_euclid 43 = .ok (.iconst 0, 1) := by decide +kernel
theorem dX7_euclid_44 : decode cX7_euclid 44 = .ok (.istore 11, 2) := by decide +kernel
theorem dX7_euclid_46 : decode cX7_euclid 46 = .ok (.iload 11, 2) := by decide +kernel
theorem dX7_euclid_48 : decode cX7_euclid 48 = .ok (.iload 6, 2) := by decide +kernel
theorem dX7_euclid_50 : decode cX7_euclid 50 = .ok (.if_icmp .ge 92, 3) := by decide +kernel
theorem dX7_euclid_53 : decode cX7_euclid 53 = .ok (.iload 11, 2) := by decide +kernel
theorem dX7_euclid_55 : decode cX7_euclid 55 = .ok (.aload 4, 2) := by decide +kernel
theorem dX7_euclid_57 : decode cX7_euclid 57 = .ok (.getfield 107, 3) := by decide +kernel
theorem dX7_euclid_60 : decode cX7_euclid 60 = .ok (.iadd, 1) := by decide +kernel
theorem dX7_euclid_61 : decode cX7_euclid 61 = .ok (.iload 6, 2) := by decide +kernel
theorem dX7_euclid_63 : decode cX7_euclid 63 = .ok (.irem, 1) := by decide +kernel
theorem dX7_euclid_64 : decode cX7_euclid 64 = .ok (.aload 4, 2) := by decide +kernel
theorem dX7_euclid_66 : decode cX7_euclid 66 = .ok (.getfield 57, 3) := by decide +kernel
theorem dX7_euclid_69 : decode cX7_euclid 69 = .ok (.imul, 1) := by decide +kernel
theorem dX7_euclid_70 : decode cX7_euclid 70 = .ok (.iload 6, 2) := by decide +kernel
theorem dX7_euclid_72 : decode cX7_euclid 72 = .ok (.irem, 1) := by decide +kernel
theorem dX7_euclid_73 : decode cX7_euclid 73 = .ok (.aload 4, 2) := by decide +kernel
theorem dX7_euclid_75 : decode cX7_euclid 75 = .ok (.getfield 57, 3) := by decide +kernel
theorem dX7_euclid_78 : decode cX7_euclid 78 = .ok (.if_icmp .lt 6, 3) := by decide +kernel
theorem dX7_euclid_81 : decode cX7_euclid 81 = .ok (.goto 55, 3) := by decide +kernel
theorem dX7_euclid_84 : decode cX7_euclid 84 = .ok (.lload 9, 2) := by decide +kernel
theorem dX7_euclid_86 : decode cX7_euclid 86 = .ok (.lconst 0, 1) := by decide +kernel
theorem dX7_euclid_87 : decode cX7_euclid 87 = .ok (.lcmp, 1) := by decide +kernel
theorem dX7_euclid_88 : decode cX7_euclid 88 = .ok (.ifCond .ge 27, 3) := by decide +kernel
theorem dX7_euclid_91 : decode cX7_euclid 91 = .ok (.iload 11, 2) := by decide +kernel
theorem dX7_euclid_93 : decode cX7_euclid 93 = .ok (.i2l, 1) := by decide +kernel
theorem dX7_euclid_94 : decode cX7_euclid 94 = .ok (.lstore 9, 2) := by decide +kernel
theorem dX7_euclid_96 : decode cX7_euclid 96 = .ok (.aload_n 0, 1) := by decide +kernel
theorem dX7_euclid_97 : decode cX7_euclid 97 = .ok (.aload 5, 2) := by decide +kernel
theorem dX7_euclid_99 : decode cX7_euclid 99 = .ok (.lload_n 2, 1) := by decide +kernel
theorem dX7_euclid_100 : decode cX7_euclid 100 = .ok (.invokevirtual 31, 3) := by decide +kernel
theorem dX7_euclid_103 : decode cX7_euclid 103 = .ok (.aload_n 0, 1) := by decide +kernel
theorem dX7_euclid_104 : decode cX7_euclid 104 = .ok (.getfield 12, 3) := by decide +kernel
theorem dX7_euclid_107 : decode cX7_euclid 107 = .ok (.getfield 28, 3) := by decide +kernel
theorem dX7_euclid_110 : decode cX7_euclid 110 = .ok (.istore 8, 2) := by decide +kernel
theorem dX7_euclid_112 : decode cX7_euclid 112 = .ok (.goto 24, 3) := by decide +kernel
theorem dX7_euclid_115 : decode cX7_euclid 115 = .ok (.aload_n 0, 1) := by decide +kernel
theorem dX7_euclid_116 : decode cX7_euclid 116 = .ok (.getfield 12, 3) := by decide +kernel
theorem dX7_euclid_119 : decode cX7_euclid 119 = .ok (.iload 7, 2) := by decide +kernel
theorem dX7_euclid_121 : decode cX7_euclid 121 = .ok (.iload 8, 2) := by decide +kernel
theorem dX7_euclid_123 : decode cX7_euclid 123 = .ok (.lconst 1, 1) := by decide +kernel
theorem dX7_euclid_124 : decode cX7_euclid 124 = .ok (.iload 11, 2) := by decide +kernel
theorem dX7_euclid_126 : decode cX7_euclid 126 = .ok (.i2l, 1) := by decide +kernel
theorem dX7_euclid_127 : decode cX7_euclid 127 = .ok (.aload 5, 2) := by decide +kernel
theorem dX7_euclid_129 : decode cX7_euclid 129 = .ok (.getfield 101, 3) := by decide +kernel
theorem dX7_euclid_132 : decode cX7_euclid 132 = .ok (.lmul, 1) := by decide +kernel
theorem dX7_euclid_133 : decode cX7_euclid 133 = .ok (.invokevirtual 144, 3) := by decide +kernel
theorem dX7_euclid_136 : decode cX7_euclid 136 = .ok (.iinc 11 1, 3) := by decide +kernel
theorem dX7_euclid_139 : decode cX7_euclid 139 = .ok (.goto (-93), 3) := by decide +kernel
theorem dX7_euclid_142 : decode cX7_euclid 142 = .ok (.iload 7, 2) := by decide +kernel
theorem dX7_euclid_144 : decode cX7_euclid 144 = .ok (.istore 11, 2) := by decide +kernel
theorem dX7_euclid_146 : decode cX7_euclid 146 = .ok (.iload 11, 2) := by decide +kernel
theorem dX7_euclid_148 : decode cX7_euclid 148 = .ok (.iload 8, 2) := by decide +kernel
theorem dX7_euclid_150 : decode cX7_euclid 150 = .ok (.if_icmp .ge 30, 3) := by decide +kernel
theorem dX7_euclid_153 : decode cX7_euclid 153 = .ok (.aload_n 0, 1) := by decide +kernel
theorem dX7_euclid_154 : decode cX7_euclid 154 = .ok (.getfield 12, 3) := by decide +kernel
theorem dX7_euclid_157 : decode cX7_euclid 157 = .ok (.getfield 148, 3) := by decide +kernel
theorem dX7_euclid_160 : decode cX7_euclid 160 = .ok (.iload 11, 2) := by decide +kernel
theorem dX7_euclid_162 : decode cX7_euclid 162 = .ok (.dup2, 1) := by decide +kernel
theorem dX7_euclid_163 : decode cX7_euclid 163 = .ok (.laload, 1) := by decide +kernel
theorem dX7_euclid_164 : decode cX7_euclid 164 = .ok (.lload 9, 2) := by decide +kernel
theorem dX7_euclid_166 : decode cX7_euclid 166 = .ok (.aload 5, 2) := by decide +kernel
theorem dX7_euclid_168 : decode cX7_euclid 168 = .ok (.getfield 101, 3) := by decide +kernel
theorem dX7_euclid_171 : decode cX7_euclid 171 = .ok (.lmul, 1) := by decide +kernel
theorem dX7_euclid_172 : decode cX7_euclid 172 = .ok (.ladd, 1) := by decide +kernel
theorem dX7_euclid_173 : decode cX7_euclid 173 = .ok (.lastore, 1) := by decide +kernel
theorem dX7_euclid_174 : decode cX7_euclid 174 = .ok (.iinc 11 1, 3) := by decide +kernel
theorem dX7_euclid_177 : decode cX7_euclid 177 = .ok (.goto (-31), 3) := by decide +kernel
theorem dX7_euclid_180 : decode cX7_euclid 180 = .ok (.return_, 1) := by decide +kernel
theorem dX7_layer_0 : decode cX7_layer 0 = .ok (.aload_n 0, 1) := by decide +kernel
theorem dX7_layer_1 : decode cX7_layer 1 = .ok (.getfield 12, 3) := by decide +kernel
theorem dX7_layer_4 : decode cX7_layer 4 = .ok (.getfield 28, 3) := by decide +kernel
theorem dX7_layer_7 : decode cX7_layer 7 = .ok (.istore 4, 2) := by decide +kernel
theorem dX7_layer_9 : decode cX7_layer 9 = .ok (.iconst 0, 1) := by decide +kernel
theorem dX7_layer_10 : decode cX7_layer 10 = .ok (.istore 5, 2) := by decide +kernel
theorem dX7_layer_12 : decode cX7_layer 12 = .ok (.iload 5, 2) := by decide +kernel
theorem dX7_layer_14 : decode cX7_layer 14 = .ok (.aload_n 1, 1) := by decide +kernel
theorem dX7_layer_15 : decode cX7_layer 15 = .ok (.getfield 125, 3) := by decide +kernel
theorem dX7_layer_18 : decode cX7_layer 18 = .ok (.arraylength, 1) := by decide +kernel
theorem dX7_layer_19 : decode cX7_layer 19 = .ok (.if_icmp .ge 55, 3) := by decide +kernel
theorem dX7_layer_22 : decode cX7_layer 22 = .ok (.aload_n 0, 1) := by decide +kernel
theorem dX7_layer_23 : decode cX7_layer 23 = .ok (.getfield 12, 3) := by decide +kernel
theorem dX7_layer_26 : decode cX7_layer 26 = .ok (.getfield 28, 3) := by decide +kernel
theorem dX7_layer_29 : decode cX7_layer 29 = .ok (.istore 6, 2) := by decide +kernel
theorem dX7_layer_31 : decode cX7_layer 31 = .ok (.aload_n 0, 1) := by decide +kernel
theorem dX7_layer_32 : decode cX7_layer 32 = .ok (.aload_n 1, 1) := by decide +kernel
theorem dX7_layer_33 : decode cX7_layer 33 = .ok (.getfield 125, 3) := by decide +kernel
theorem dX7_layer_36 : decode cX7_layer 36 = .ok (.iload 5, 2) := by decide +kernel
theorem dX7_layer_38 : decode cX7_layer 38 = .ok (.aaload, 1) := by decide +kernel
theorem dX7_layer_39 : decode cX7_layer 39 = .ok (.lload_n 2, 1) := by decide +kernel
theorem dX7_layer_40 : decode cX7_layer 40 = .ok (.invokevirtual 31, 3) := by decide +kernel
theorem dX7_layer_43 : decode cX7_layer 43 = .ok (.aload_n 0, 1) := by decide +kernel
theorem dX7_layer_44 : decode cX7_layer 44 = .ok (.getfield 12, 3) := by decide +kernel
theorem dX7_layer_47 : decode cX7_layer 47 = .ok (.iload 6, 2) := by decide +kernel
theorem dX7_layer_49 : decode cX7_layer 49 = .ok (.aload_n 1, 1) := by decide +kernel
theorem dX7_layer_50 : decode cX7_layer 50 = .ok (.getfield 101, 3) := by decide +kernel
theorem dX7_layer_53 : decode cX7_layer 53 = .ok (.aload_n 1, 1) := by decide +kernel
theorem dX7_layer_54 : decode cX7_layer 54 = .ok (.getfield 125, 3) := by decide +kernel
theorem dX7_layer_57 : decode cX7_layer 57 = .ok (.iload 5, 2) := by decide +kernel
theorem dX7_layer_59 : decode cX7_layer 59 = .ok (.aaload, 1) := by decide +kernel
theorem dX7_layer_60 : decode cX7_layer 60 = .ok (.getfield 101, 3) := by decide +kernel
theorem dX7_layer_63 : decode cX7_layer 63 = .ok (.ldiv, 1) := by decide +kernel
theorem dX7_layer_64 : decode cX7_layer 64 = .ok (.lconst 0, 1) := by decide +kernel
theorem dX7_layer_65 : decode cX7_layer 65 = .ok (.invokevirtual 162, 3) := by decide +kernel
theorem dX7_layer_68 : decode cX7_layer 68 = .ok (.iinc 5 1, 3) := by decide +kernel
theorem dX7_layer_71 : decode cX7_layer 71 = .ok (.goto (-59), 3) := by decide +kernel
theorem dX7_layer_74 : decode cX7_layer 74 = .ok (.aload_n 0, 1) := by decide +kernel
theorem dX7_layer_75 : decode cX7_layer 75 = .ok (.getfield 12, 3) := by decide +kernel
theorem dX7_layer_78 : decode cX7_layer 78 = .ok (.iload 4, 2) := by decide +kernel
theorem dX7_layer_80 : decode cX7_layer 80 = .ok (.invokevirtual 168, 3) := by decide +kernel
theorem dX7_layer_83 : decode cX7_layer 83 = .ok (.return_, 1) := by decide +kernel
theorem dX7_fast_0 : decode cX7_fast 0 = .ok (.aload_n 1, 1) := by decide +kernel
theorem dX7_fast_1 : decode cX7_fast 1 = .ok (.getfield 125, 3) := by decide +kernel
theorem dX7_fast_4 : decode cX7_fast 4 = .ok (.iconst 0, 1) := by decide +kernel
theorem dX7_fast_5 : decode cX7_fast 5 = .ok (.aaload, 1) := by decide +kernel
theorem dX7_fast_6 : decode cX7_fast 6 = .ok (.astore 4, 2) := by decide +kernel
theorem dX7_fast_8 : decode cX7_fast 8 = .ok (.iconst 1, 1) := by decide +kernel
theorem dX7_fast_9 : decode cX7_fast 9 = .ok (.aload_n 1, 1) := by decide +kernel
theorem dX7_fast_10 : decode cX7_fast 10 = .ok (.getfield 41, 3) := by decide +kernel
theorem dX7_fast_13 : decode cX7_fast 13 = .ok (.getfield 57, 3) := by decide +kernel
theorem dX7_fast_16 : decode cX7_fast 16 = .ok (.invokestatic 133, 3) := by decide +kernel
theorem dX7_fast_19 : decode cX7_fast 19 = .ok (.i2l, 1) := by decide +kernel
theorem dX7_fast_20 : decode cX7_fast 20 = .ok (.lstore 5, 2) := by decide +kernel
theorem dX7_fast_22 : decode cX7_fast 22 = .ok (.iconst 1, 1) := by decide +kernel
theorem dX7_fast_23 : decode cX7_fast 23 = .ok (.aload_n 1, 1) := by decide +kernel
theorem dX7_fast_24 : decode cX7_fast 24 = .ok (.getfield 41, 3) := by decide +kernel
theorem dX7_fast_27 : decode cX7_fast 27 = .ok (.getfield 78, 3) := by decide +kernel
theorem dX7_fast_30 : decode cX7_fast 30 = .ok (.invokestatic 133, 3) := by decide +kernel
theorem dX7_fast_33 : decode cX7_fast 33 = .ok (.i2l, 1) := by decide +kernel
theorem dX7_fast_34 : decode cX7_fast 34 = .ok (.lstore 7, 2) := by decide +kernel
theorem dX7_fast_36 : decode cX7_fast 36 = .ok (.lload_n 2, 1) := by decide +kernel
theorem dX7_fast_37 : decode cX7_fast 37 = .ok (.lconst 1, 1) := by decide +kernel
theorem dX7_fast_38 : decode cX7_fast 38 = .ok (.ladd, 1) := by decide +kernel
theorem dX7_fast_39 : decode cX7_fast 39 = .ok (.lload 5, 2) := by decide +kernel
theorem dX7_fast_41 : decode cX7_fast 41 = .ok (.lmul, 1) := by decide +kernel
theorem dX7_fast_42 : decode cX7_fast 42 = .ok (.lconst 1, 1) := by decide +kernel
theorem dX7_fast_43 : decode cX7_fast 43 = .ok (.lsub, 1) := by decide +kernel
theorem dX7_fast_44 : decode cX7_fast 44 = .ok (.lload 7, 2) := by decide +kernel
theorem dX7_fast_46 : decode cX7_fast 46 = .ok (.invokestatic 22, 3) := by decide +kernel
theorem dX7_fast_49 : decode cX7_fast 49 = .ok (.lstore 9, 2) := by decide +kernel
theorem dX7_fast_51 : decode cX7_fast 51 = .ok (.lload_n 2, 1) := by decide +kernel
theorem dX7_fast_52 : decode cX7_fast 52 = .ok (.lload 5, 2) := by decide +kernel
theorem dX7_fast_54 : decode cX7_fast 54 = .ok (.lmul, 1) := by decide +kernel
theorem dX7_fast_55 : decode cX7_fast 55 = .ok (.lload 7, 2) := by decide +kernel
theorem dX7_fast_57 : decode cX7_fast 57 = .ok (.invokestatic 22, 3) := by decide +kernel
theorem dX7_fast_60 : decode cX7_fast 60 = .ok (.lstore 11, 2) := by decide +kernel
theorem dX7_fast_62 : decode cX7_fast 62 = .ok (.lload 11, 2) := by decide +kernel
theorem dX7_fast_64 : decode cX7_fast 64 = .ok (.lload 9, 2) := by decide +kernel
theorem dX7_fast_66 : decode cX7_fast 66 = .ok (.lcmp, 1) := by decide +kernel
theorem dX7_fast_67 : decode cX7_fast 67 = .ok (.ifCond .gt 71, 3) := by decide +kernel
theorem dX7_fast_70 : decode cX7_fast 70 = .ok (.aload_n 0, 1) := by decide +kernel
theorem dX7_fast_71 : decode cX7_fast 71 = .ok (.getfield 12, 3) := by decide +kernel
theorem dX7_fast_74 : decode cX7_fast 74 = .ok (.getfield 28, 3) := by decide +kernel
theorem dX7_fast_77 : decode cX7_fast 77 = .ok (.istore 13, 2) := by decide +kernel
theorem dX7_fast_79 : decode cX7_fast 79 = .ok (.aload_n 0, 1) := by decide +kernel
theorem dX7_fast_80 : decode cX7_fast 80 = .ok (.aload 4, 2) := by decide +kernel
theorem dX7_fast_82 : decode cX7_fast 82 = .ok (.lload 11, 2) := by decide +kernel
theorem dX7_fast_84 : decode cX7_fast 84 = .ok (.invokevirtual 31, 3) := by decide +kernel
theorem dX7_fast_87 : decode cX7_fast 87 = .ok (.aload_n 0, 1) := by decide +kernel
theorem dX7_fast_88 : decode cX7_fast 88 = .ok (.getfield 12, 3) := by decide +kernel
theorem dX7_fast_91 : decode cX7_fast 91 = .ok (.iload 13, 2) := by decide +kernel
theorem dX7_fast_93 : decode cX7_fast 93 = .ok (.lload 7, 2) := by decide +kernel
theorem dX7_fast_95 : decode cX7_fast 95 = .ok (.lload 11, 2) := by decide +kernel
theorem dX7_fast_97 : decode cX7_fast 97 = .ok (.lload 7, 2) := by decide +kernel
theorem dX7_fast_99 : decode cX7_fast 99 = .ok (.lmul, 1) := by decide +kernel
theorem dX7_fast_100 : decode cX7_fast 100 = .ok (.lload_n 2, 1) := by decide +kernel
theorem dX7_fast_101 : decode cX7_fast 101 = .ok (.lload 5, 2) := by decide +kernel
theorem dX7_fast_103 : decode cX7_fast 103 = .ok (.lmul, 1) := by decide +kernel
theorem dX7_fast_104 : decode cX7_fast 104 = .ok (.lsub, 1) := by decide +kernel
theorem dX7_fast_105 : decode cX7_fast 105 = .ok (.aload 4, 2) := by decide +kernel
theorem dX7_fast_107 : decode cX7_fast 107 = .ok (.getfield 101, 3) := by decide +kernel
theorem dX7_fast_110 : decode cX7_fast 110 = .ok (.lmul, 1) := by decide +kernel
theorem dX7_fast_111 : decode cX7_fast 111 = .ok (.invokevirtual 162, 3) := by decide +kernel
theorem dX7_fast_114 : decode cX7_fast 114 = .ok (.aload_n 0, 1) := by decide +kernel
theorem dX7_fast_115 : decode cX7_fast 115 = .ok (.getfield 12, 3) := by decide +kernel
theorem dX7_fast_118 : decode cX7_fast 118 = .ok (.iload 13, 2) := by decide +kernel
theorem dX7_fast_120 : decode cX7_fast 120 = .ok (.lconst 0, 1) := by decide +kernel
theorem dX7_fast_121 : decode cX7_fast 121 = .ok (.aload_n 1, 1) := by decide +kernel
theorem dX7_fast_122 : decode cX7_fast 122 = .ok (.getfield 101, 3) := by decide +kernel
theorem dX7_fast_125 : decode cX7_fast 125 = .ok (.iconst 1, 1) := by decide +kernel
theorem dX7_fast_126 : decode cX7_fast 126 = .ok (.invokevirtual 172, 3) := by decide +kernel
theorem dX7_fast_129 : decode cX7_fast 129 = .ok (.lload 11, 2) := by decide +kernel
theorem dX7_fast_131 : decode cX7_fast 131 = .ok (.lconst 1, 1) := by decide +kernel
theorem dX7_fast_132 : decode cX7_fast 132 = .ok (.ladd, 1) := by decide +kernel
theorem dX7_fast_133 : decode cX7_fast 133 = .ok (.lstore 11, 2) := by decide +kernel
theorem dX7_fast_135 : decode cX7_fast 135 = .ok (.goto (-73), 3) := by decide +kernel
theorem dX7_fast_138 : decode cX7_fast 138 = .ok (.return_, 1) := by decide +kernel
theorem dX7_shift_0 : decode cX7_shift 0 = .ok (.aload_n 1, 1) := by decide +kernel
theorem dX7_shift_1 : decode cX7_shift 1 = .ok (.getfield 125, 3) := by decide +kernel
theorem dX7_shift_4 : decode cX7_shift 4 = .ok (.iconst 0, 1) := by decide +kernel
theorem dX7_shift_5 : decode cX7_shift 5 = .ok (.aaload, 1) := by decide +kernel
theorem dX7_shift_6 : decode cX7_shift 6 = .ok (.astore 8, 2) := by decide +kernel
theorem dX7_shift_8 : decode cX7_shift 8 = .ok (.lconst 1, 1) := by decide +kernel
theorem dX7_shift_9 : decode cX7_shift 9 = .ok (.lload 6, 2) := by decide +kernel
theorem dX7_shift_11 : decode cX7_shift 11 = .ok (.invokestatic 176, 3) := by decide +kernel
theorem dX7_shift_14 : decode cX7_shift 14 = .ok (.lstore 9, 2) := by decide +kernel
theorem dX7_shift_16 : decode cX7_shift 16 = .ok (.lload 4, 2) := by decide +kernel
theorem dX7_shift_18 : decode cX7_shift 18 = .ok (.lload 9, 2) := by decide +kernel
theorem dX7_shift_20 : decode cX7_shift 20 = .ok (.invokestatic 22, 3) := by decide +kernel
theorem dX7_shift_23 : decode cX7_shift 23 = .ok (.lstore 11, 2) := by decide +kernel
theorem dX7_shift_25 : decode cX7_shift 25 = .ok (.lload 4, 2) := by decide +kernel
theorem dX7_shift_27 : decode cX7_shift 27 = .ok (.lload 9, 2) := by decide +kernel
theorem dX7_shift_29 : decode cX7_shift 29 = .ok (.invokestatic 104, 3) := by decide +kernel
theorem dX7_shift_32 : decode cX7_shift 32 = .ok (.lstore 13, 2) := by decide +kernel
theorem dX7_shift_34 : decode cX7_shift 34 = .ok (.lload 11, 2) := by decide +kernel
theorem dX7_shift_36 : decode cX7_shift 36 = .ok (.lstore 15, 2) := by decide +kernel
theorem dX7_shift_38 : decode cX7_shift 38 = .ok (.lload 15, 2) := by decide +kernel
theorem dX7_shift_40 : decode cX7_shift 40 = .ok (.lload 13, 2) := by decide +kernel
theorem dX7_shift_42 : decode cX7_shift 42 = .ok (.lcmp, 1) := by decide +kernel
theorem dX7_shift_43 : decode cX7_shift 43 = .ok (.ifCond .gt 83, 3) := by decide +kernel
theorem dX7_shift_46 : decode cX7_shift 46 = .ok (.aload_n 0, 1) := by decide +kernel
theorem dX7_shift_47 : decode cX7_shift 47 = .ok (.getfield 12, 3) := by decide +kernel
theorem dX7_shift_50 : decode cX7_shift 50 = .ok (.getfield 28, 3) := by decide +kernel
theorem dX7_shift_53 : decode cX7_shift 53 = .ok (.istore 17, 2) := by decide +kernel
theorem dX7_shift_55 : decode cX7_shift 55 = .ok (.aload_n 0, 1) := by decide +kernel
theorem dX7_shift_56 : decode cX7_shift 56 = .ok (.aload 8, 2) := by decide +kernel
theorem dX7_shift_58 : decode cX7_shift 58 = .ok (.lload_n 2, 1) := by decide +kernel
theorem dX7_shift_59 : decode cX7_shift 59 = .ok (.lload 15, 2) := by decide +kernel
theorem dX7_shift_61 : decode cX7_shift 61 = .ok (.ladd, 1) := by decide +kernel
theorem dX7_shift_62 : decode cX7_shift 62 = .ok (.invokevirtual 31, 3) := by decide +kernel
theorem dX7_shift_65 : decode cX7_shift 65 = .ok (.aload_n 0, 1) := by decide +kernel
theorem dX7_shift_66 : decode cX7_shift 66 = .ok (.getfield 12, 3) := by decide +kernel
theorem dX7_shift_69 : decode cX7_shift 69 = .ok (.iload 17, 2) := by decide +kernel
theorem dX7_shift_71 : decode cX7_shift 71 = .ok (.aload_n 1, 1) := by decide +kernel
theorem dX7_shift_72 : decode cX7_shift 72 = .ok (.getfield 101, 3) := by decide +kernel
theorem dX7_shift_75 : decode cX7_shift 75 = .ok (.aload 8, 2) := by decide +kernel
theorem dX7_shift_77 : decode cX7_shift 77 = .ok (.getfield 101, 3) := by decide +kernel
theorem dX7_shift_80 : decode cX7_shift 80 = .ok (.ldiv, 1) := by decide +kernel
theorem dX7_shift_81 : decode cX7_shift 81 = .ok (.lload 15, 2) := by decide +kernel
theorem dX7_shift_83 : decode cX7_shift 83 = .ok (.aload_n 1, 1) := by decide +kernel
theorem dX7_shift_84 : decode cX7_shift 84 = .ok (.getfield 101, 3) := by decide +kernel
theorem dX7_shift_87 : decode cX7_shift 87 = .ok (.lmul, 1) := by decide +kernel
theorem dX7_shift_88 : decode cX7_shift 88 = .ok (.lload 4, 2) := by decide +kernel
theorem dX7_shift_90 : decode cX7_shift 90 = .ok (.aload_n 1, 1) := by decide +kernel
theorem dX7_shift_91 : decode cX7_shift 91 = .ok (.getfield 101, 3) := by decide +kernel
theorem dX7_shift_94 : decode cX7_shift 94 = .ok (.lload 9, 2) := by decide +kernel
theorem dX7_shift_96 : decode cX7_shift 96 = .ok (.ldiv, 1) := by decide +kernel
theorem dX7_shift_97 : decode cX7_shift 97 = .ok (.lmul, 1) := by decide +kernel
theorem dX7_shift_98 : decode cX7_shift 98 = .ok (.lsub, 1) := by decide +kernel
theorem dX7_shift_99 : decode cX7_shift 99 = .ok (.invokevirtual 162, 3) := by decide +kernel
theorem dX7_shift_102 : decode cX7_shift 102 = .ok (.aload_n 0, 1) := by decide +kernel
theorem dX7_shift_103 : decode cX7_shift 103 = .ok (.getfield 12, 3) := by decide +kernel
theorem dX7_shift_106 : decode cX7_shift 106 = .ok (.iload 17, 2) := by decide +kernel
theorem dX7_shift_108 : decode cX7_shift 108 = .ok (.lconst 0, 1) := by decide +kernel
theorem dX7_shift_109 : decode cX7_shift 109 = .ok (.aload_n 1, 1) := by decide +kernel
theorem dX7_shift_110 : decode cX7_shift 110 = .ok (.getfield 101, 3) := by decide +kernel
theorem dX7_shift_113 : decode cX7_shift 113 = .ok (.iconst 1, 1) := by decide +kernel
theorem dX7_shift_114 : decode cX7_shift 114 = .ok (.invokevirtual 172, 3) := by decide +kernel
theorem dX7_shift_117 : decode cX7_shift 117 = .ok (.lload 15, 2) := by decide +kernel
theorem dX7_shift_119 : decode cX7_shift 119 = .ok (.lconst 1, 1) := by decide +kernel
theorem dX7_shift_120 : decode cX7_shift 120 = .ok (.ladd, 1) := by decide +kernel
theorem dX7_shift_121 : decode cX7_shift 121 = .ok (.lstore 15, 2) := by decide +kernel
theorem dX7_shift_123 : decode cX7_shift 123 = .ok (.goto (-85), 3) := by decide +kernel
theorem dX7_shift_126 : decode cX7_shift 126 = .ok (.return_, 1) := by decide +kernel
theorem dX7_reverse_0 : decode cX7_reverse 0 = .ok (.aload_n 0, 1) := by decide +kernel
theorem dX7_reverse_1 : decode cX7_reverse 1 = .ok (.getfield 12, 3) := by decide +kernel
theorem dX7_reverse_4 : decode cX7_reverse 4 = .ok (.getfield 28, 3) := by decide +kernel
theorem dX7_reverse_7 : decode cX7_reverse 7 = .ok (.istore 4, 2) := by decide +kernel
theorem dX7_reverse_9 : decode cX7_reverse 9 = .ok (.aload_n 0, 1) := by decide +kernel
theorem dX7_reverse_10 : decode cX7_reverse 10 = .ok (.aload_n 1, 1) := by decide +kernel
theorem dX7_reverse_11 : decode cX7_reverse 11 = .ok (.getfield 125, 3) := by decide +kernel
theorem dX7_reverse_14 : decode cX7_reverse 14 = .ok (.iconst 0, 1) := by decide +kernel
theorem dX7_reverse_15 : decode cX7_reverse 15 = .ok (.aaload, 1) := by decide +kernel
theorem dX7_reverse_16 : decode cX7_reverse 16 = .ok (.lload_n 2, 1) := by decide +kernel
theorem dX7_reverse_17 : decode cX7_reverse 17 = .ok (.invokevirtual 31, 3) := by decide +kernel
theorem dX7_reverse_20 : decode cX7_reverse 20 = .ok (.iload 4, 2) := by decide +kernel
theorem dX7_reverse_22 : decode cX7_reverse 22 = .ok (.istore 5, 2) := by decide +kernel
theorem dX7_reverse_24 : decode cX7_reverse 24 = .ok (.iload 5, 2) := by decide +kernel
theorem dX7_reverse_26 : decode cX7_reverse 26 = .ok (.aload_n 0, 1) := by decide +kernel
theorem dX7_reverse_27 : decode cX7_reverse 27 = .ok (.getfield 12, 3) := by decide +kernel
theorem dX7_reverse_30 : decode cX7_reverse 30 = .ok (.getfield 28, 3) := by decide +kernel
theorem dX7_reverse_33 : decode cX7_reverse 33 = .ok (.if_icmp .ge 75, 3) := by decide +kernel
theorem dX7_reverse_36 : decode cX7_reverse 36 = .ok (.aload_n 0, 1) := by decide +kernel
theorem dX7_reverse_37 : decode cX7_reverse 37 = .ok (.getfield 12, 3) := by decide +kernel
theorem dX7_reverse_40 : decode cX7_reverse 40 = .ok (.getfield 148, 3) := by decide +kernel
theorem dX7_reverse_43 : decode cX7_reverse 43 = .ok (.iload 5, 2) := by decide +kernel
theorem dX7_reverse_45 : decode cX7_reverse 45 = .ok (.laload, 1) := by decide +kernel
theorem dX7_reverse_46 : decode cX7_reverse 46 = .ok (.lstore 6, 2) := by decide +kernel
theorem dX7_reverse_48 : decode cX7_reverse 48 = .ok (.aload_n 1, 1) := by decide +kernel
theorem dX7_reverse_49 : decode cX7_reverse 49 = .ok (.getfield 101, 3) := by decide +kernel
theorem dX7_reverse_52 : decode cX7_reverse 52 = .ok (.lload 6, 2) := by decide +kernel
theorem dX7_reverse_54 : decode cX7_reverse 54 = .ok (.aload_n 0, 1) := by decide +kernel
theorem dX7_reverse_55 : decode cX7_reverse 55 = .ok (.getfield 12, 3) := by decide +kernel
theorem dX7_reverse_58 : decode cX7_reverse 58 = .ok (.getfield 152, 3) := by decide +kernel
theorem dX7_reverse_61 : decode cX7_reverse 61 = .ok (.iload 5, 2) := by decide +kernel
theorem dX7_reverse_63 : decode cX7_reverse 63 = .ok (.laload, 1) := by decide +kernel
theorem dX7_reverse_64 : decode cX7_reverse 64 = .ok (.ladd, 1) := by decide +kernel
theorem dX7_reverse_65 : decode cX7_reverse 65 = .ok (.invokestatic 178, 3) := by decide +kernel
theorem dX7_reverse_68 : decode cX7_reverse 68 = .ok (.lstore 8, 2) := by decide +kernel
theorem dX7_reverse_70 : decode cX7_reverse 70 = .ok (.aload_n 0, 1) := by decide +kernel
theorem dX7_reverse_71 : decode cX7_reverse 71 = .ok (.getfield 12, 3) := by decide +kernel
theorem dX7_reverse_74 : decode cX7_reverse 74 = .ok (.getfield 148, 3) := by decide +kernel
theorem dX7_reverse_77 : decode cX7_reverse 77 = .ok (.iload 5, 2) := by decide +kernel
theorem dX7_reverse_79 : decode cX7_reverse 79 = .ok (.aload_n 1, 1) := by decide +kernel
theorem dX7_reverse_80 : decode cX7_reverse 80 = .ok (.getfield 101, 3) := by decide +kernel
theorem dX7_reverse_83 : decode cX7_reverse 83 = .ok (.lload 8, 2) := by decide +kernel
theorem dX7_reverse_85 : decode cX7_reverse 85 = .ok (.lsub, 1) := by decide +kernel
theorem dX7_reverse_86 : decode cX7_reverse 86 = .ok (.lastore, 1) := by decide +kernel
theorem dX7_reverse_87 : decode cX7_reverse 87 = .ok (.aload_n 0, 1) := by decide +kernel
theorem dX7_reverse_88 : decode cX7_reverse 88 = .ok (.getfield 12, 3) := by decide +kernel
theorem dX7_reverse_91 : decode cX7_reverse 91 = .ok (.getfield 152, 3) := by decide +kernel
theorem dX7_reverse_94 : decode cX7_reverse 94 = .ok (.iload 5, 2) := by decide +kernel
theorem dX7_reverse_96 : decode cX7_reverse 96 = .ok (.lload 8, 2) := by decide +kernel
theorem dX7_reverse_98 : decode cX7_reverse 98 = .ok (.lload 6, 2) := by decide +kernel
theorem dX7_reverse_100 : decode cX7_reverse 100 = .ok (.lsub, 1) := by decide +kernel
theorem dX7_reverse_101 : decode cX7_reverse 101 = .ok (.lastore, 1) := by decide +kernel
theorem dX7_reverse_102 : decode cX7_reverse 102 = .ok (.iinc 5 1, 3) := by decide +kernel
theorem dX7_reverse_105 : decode cX7_reverse 105 = .ok (.goto (-81), 3) := by decide +kernel
theorem dX7_reverse_108 : decode cX7_reverse 108 = .ok (.aload_n 0, 1) := by decide +kernel
theorem dX7_reverse_109 : decode cX7_reverse 109 = .ok (.getfield 12, 3) := by decide +kernel
theorem dX7_reverse_112 : decode cX7_reverse 112 = .ok (.iload 4, 2) := by decide +kernel
theorem dX7_reverse_114 : decode cX7_reverse 114 = .ok (.invokevirtual 168, 3) := by decide +kernel
theorem dX7_reverse_117 : decode cX7_reverse 117 = .ok (.return_, 1) := by decide +kernel
theorem dX7_either_0 : decode cX7_either 0 = .ok (.iload 4, 2) := by decide +kernel
theorem dX7_either_2 : decode cX7_either 2 = .ok (.ifCond .eq 12, 3) := by decide +kernel
theorem dX7_either_5 : decode cX7_either 5 = .ok (.aload_n 1, 1) := by decide +kernel
theorem dX7_either_6 : decode cX7_either 6 = .ok (.getfield 125, 3) := by decide +kernel
theorem dX7_either_9 : decode cX7_either 9 = .ok (.iconst 1, 1) := by decide +kernel
theorem dX7_either_10 : decode cX7_either 10 = .ok (.aaload, 1) := by decide +kernel
theorem dX7_either_11 : decode cX7_either 11 = .ok (.goto 9, 3) := by decide +kernel
theorem dX7_either_14 : decode cX7_either 14 = .ok (.aload_n 1, 1) := by decide +kernel
theorem dX7_either_15 : decode cX7_either 15 = .ok (.getfield 125, 3) := by decide +kernel
theorem dX7_either_18 : decode cX7_either 18 = .ok (.iconst 0, 1) := by decide +kernel
theorem dX7_either_19 : decode cX7_either 19 = .ok (.aaload, 1) := by decide +kernel
theorem dX7_either_20 : decode cX7_either 20 = .ok (.astore 5, 2) := by decide +kernel
theorem dX7_either_22 : decode cX7_either 22 = .ok (.aload_n 0, 1) := by decide +kernel
theorem dX7_either_23 : decode cX7_either 23 = .ok (.getfield 12, 3) := by decide +kernel
theorem dX7_either_26 : decode cX7_either 26 = .ok (.getfield 28, 3) := by decide +kernel
theorem dX7_either_29 : decode cX7_either 29 = .ok (.istore 6, 2) := by decide +kernel
theorem dX7_either_31 : decode cX7_either 31 = .ok (.aload_n 0, 1) := by decide +kernel
theorem dX7_either_32 : decode cX7_either 32 = .ok (.aload 5, 2) := by decide +kernel
theorem dX7_either_34 : decode cX7_either 34 = .ok (.lload_n 2, 1) := by decide +kernel
theorem dX7_either_35 : decode cX7_either 35 = .ok (.invokevirtual 31, 3) := by decide +kernel
theorem dX7_either_38 : decode cX7_either 38 = .ok (.aload_n 0, 1) := by decide +kernel
theorem dX7_either_39 : decode cX7_either 39 = .ok (.getfield 12, 3) := by decide +kernel
theorem dX7_either_42 : decode cX7_either 42 = .ok (.iload 6, 2) := by decide +kernel
theorem dX7_either_44 : decode cX7_either 44 = .ok (.aload_n 1, 1) := by decide +kernel
theorem dX7_either_45 : decode cX7_either 45 = .ok (.getfield 101, 3) := by decide +kernel
theorem dX7_either_48 : decode cX7_either 48 = .ok (.aload 5, 2) := by decide +kernel
theorem dX7_either_50 : decode cX7_either 50 = .ok (.getfield 101, 3) := by decide +kernel
theorem dX7_either_53 : decode cX7_either 53 = .ok (.ldiv, 1) := by decide +kernel
theorem dX7_either_54 : decode cX7_either 54 = .ok (.lconst 0, 1) := by decide +kernel
theorem dX7_either_55 : decode cX7_either 55 = .ok (.invokevirtual 162, 3) := by decide +kernel
theorem dX7_either_58 : decode cX7_either 58 = .ok (.return_, 1) := by decide +kernel
theorem dX7_chunk_0 : decode cX7_chunk 0 = .ok (.iconst 1, 1) := by decide +kernel
theorem dX7_chunk_1 : decode cX7_chunk 1 = .ok (.aload_n 1, 1) := by decide +kernel
theorem dX7_chunk_2 : decode cX7_chunk 2 = .ok (.getfield 41, 3) := by decide +kernel
theorem dX7_chunk_5 : decode cX7_chunk 5 = .ok (.getfield 57, 3) := by decide +kernel
theorem dX7_chunk_8 : decode cX7_chunk 8 = .ok (.invokestatic 133, 3) := by decide +kernel
theorem dX7_chunk_11 : decode cX7_chunk 11 = .ok (.i2l, 1) := by decide +kernel
theorem dX7_chunk_12 : decode cX7_chunk 12 = .ok (.lstore 4, 2) := by decide +kernel
theorem dX7_chunk_14 : decode cX7_chunk 14 = .ok (.lload_n 2, 1) := by decide +kernel
theorem dX7_chunk_15 : decode cX7_chunk 15 = .ok (.lload 4, 2) := by decide +kernel
theorem dX7_chunk_17 : decode cX7_chunk 17 = .ok (.invokestatic 88, 3) := by decide +kernel
theorem dX7_chunk_20 : decode cX7_chunk 20 = .ok (.lstore 6, 2) := by decide +kernel
theorem dX7_chunk_22 : decode cX7_chunk 22 = .ok (.aload_n 0, 1) := by decide +kernel
theorem dX7_chunk_23 : decode cX7_chunk 23 = .ok (.aload_n 1, 1) := by decide +kernel
theorem dX7_chunk_24 : decode cX7_chunk 24 = .ok (.lload_n 2, 1) := by decide +kernel
theorem dX7_chunk_25 : decode cX7_chunk 25 = .ok (.lload 6, 2) := by decide +kernel
theorem dX7_chunk_27 : decode cX7_chunk 27 = .ok (.aload_n 1, 1) := by decide +kernel
theorem dX7_chunk_28 : decode cX7_chunk 28 = .ok (.getfield 101, 3) := by decide +kernel
theorem dX7_chunk_31 : decode cX7_chunk 31 = .ok (.lmul, 1) := by decide +kernel
theorem dX7_chunk_32 : decode cX7_chunk 32 = .ok (.lload 4, 2) := by decide +kernel
theorem dX7_chunk_34 : decode cX7_chunk 34 = .ok (.invokestatic 104, 3) := by decide +kernel
theorem dX7_chunk_37 : decode cX7_chunk 37 = .ok (.lload 6, 2) := by decide +kernel
theorem dX7_chunk_39 : decode cX7_chunk 39 = .ok (.lconst 1, 1) := by decide +kernel
theorem dX7_chunk_40 : decode cX7_chunk 40 = .ok (.ladd, 1) := by decide +kernel
theorem dX7_chunk_41 : decode cX7_chunk 41 = .ok (.aload_n 1, 1) := by decide +kernel
theorem dX7_chunk_42 : decode cX7_chunk 42 = .ok (.getfield 101, 3) := by decide +kernel
theorem dX7_chunk_45 : decode cX7_chunk 45 = .ok (.lmul, 1) := by decide +kernel
theorem dX7_chunk_46 : decode cX7_chunk 46 = .ok (.lload 4, 2) := by decide +kernel
theorem dX7_chunk_48 : decode cX7_chunk 48 = .ok (.invokestatic 104, 3) := by decide +kernel
theorem dX7_chunk_51 : decode cX7_chunk 51 = .ok (.invokevirtual 113, 3) := by decide +kernel
theorem dX7_chunk_54 : decode cX7_chunk 54 = .ok (.return_, 1) := by decide +kernel
