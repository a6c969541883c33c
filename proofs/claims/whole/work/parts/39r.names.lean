theorem dX10_startsPart_0 : decode cX10_startsPart 0 = .ok (.iload_n 0, 1) := by decide +kernel
theorem dX10_startsPart_1 : decode cX10_startsPart 1 = .ok (.invokestatic 91, 3) := by decide +kernel
theorem dX10_startsPart_4 : decode cX10_startsPart 4 = .ok (.ifCond .ne 40, 3) := by decide +kernel
theorem dX10_startsPart_7 : decode cX10_startsPart 7 = .ok (.iload_n 0, 1) := by decide +kernel
theorem dX10_startsPart_8 : decode cX10_startsPart 8 = .ok (.invokestatic 94, 3) := by decide +kernel
theorem dX10_startsPart_11 : decode cX10_startsPart 11 = .ok (.ifCond .ne 33, 3) := by decide +kernel
theorem dX10_startsPart_14 : decode cX10_startsPart 14 = .ok (.iload_n 0, 1) := by decide +kernel
theorem dX10_startsPart_15 : decode cX10_startsPart 15 = .ok (.bipush 45, 2) := by decide +kernel
theorem dX10_startsPart_17 : decode cX10_startsPart 17 = .ok (.if_icmp .eq 27, 3) := by decide +kernel
theorem dX10_startsPart_20 : decode cX10_startsPart 20 = .ok (.iload_n 0, 1) := by decide +kernel
theorem dX10_startsPart_21 : decode cX10_startsPart 21 = .ok (.bipush 126, 2) := by decide +kernel
theorem dX10_startsPart_23 : decode cX10_startsPart 23 = .ok (.if_icmp .eq 21, 3) := by decide +kernel
theorem dX10_startsPart_26 : decode cX10_startsPart 26 = .ok (.iload_n 0, 1) := by decide +kernel
theorem dX10_startsPart_27 : decode cX10_startsPart 27 = .ok (.bipush 91, 2) := by decide +kernel
theorem dX10_startsPart_29 : decode cX10_startsPart 29 = .ok (.if_icmp .eq 15, 3) := by decide +kernel
theorem dX10_startsPart_32 : decode cX10_startsPart 32 = .ok (.iload_n 0, 1) := by decide +kernel
theorem dX10_startsPart_33 : decode cX10_startsPart 33 = .ok (.bipush 60, 2) := by decide +kernel
theorem dX10_startsPart_35 : decode cX10_startsPart 35 = .ok (.if_icmp .eq 9, 3) := by decide +kernel
theorem dX10_startsPart_38 : decode cX10_startsPart 38 = .ok (.iload_n 0, 1) := by decide +kernel
theorem dX10_startsPart_39 : decode cX10_startsPart 39 = .ok (.bipush 123, 2) := by decide +kernel
theorem dX10_startsPart_41 : decode cX10_startsPart 41 = .ok (.if_icmp .ne 7, 3) := by decide +kernel
theorem dX10_startsPart_44 : decode cX10_startsPart 44 = .ok (.iconst 1, 1) := by decide +kernel
theorem dX10_startsPart_45 : decode cX10_startsPart 45 = .ok (.goto 4, 3) := by decide +kernel
theorem dX10_startsPart_48 : decode cX10_startsPart 48 = .ok (.iconst 0, 1) := by decide +kernel
theorem dX10_startsPart_49 : decode cX10_startsPart 49 = .ok (.ireturn, 1) := by decide +kernel
theorem dX10_part_0 : decode cX10_part 0 = .ok (.aload_n 0, 1) := by decide +kernel
theorem dX10_part_1 : decode cX10_part 1 = .ok (.invokevirtual 45, 3) := by decide +kernel
theorem dX10_part_4 : decode cX10_part 4 = .ok (.istore_n 1, 1) := by decide +kernel
theorem dX10_part_5 : decode cX10_part 5 = .ok (.iload_n 1, 1) := by decide +kernel
theorem dX10_part_6 : decode cX10_part 6 = .ok (.invokestatic 91, 3) := by decide +kernel
theorem dX10_part_9 : decode cX10_part 9 = .ok (.ifCond .eq 8, 3) := by decide +kernel
theorem dX10_part_12 : decode cX10_part 12 = .ok (.aload_n 0, 1) := by decide +kernel
theorem dX10_part_13 : decode cX10_part 13 = .ok (.invokevirtual 97, 3) := by decide +kernel
theorem dX10_part_16 : decode cX10_part 16 = .ok (.ireturn, 1) := by decide +kernel
theorem dX10_part_17 : decode cX10_part 17 = .ok (.iload_n 1, 1) := by decide +kernel
theorem dX10_part_18 : decode cX10_part 18 = .ok (.invokestatic 94, 3) := by decide +kernel
theorem dX10_part_21 : decode cX10_part 21 = .ok (.ifCond .ne 9, 3) := by decide +kernel
theorem dX10_part_24 : decode cX10_part 24 = .ok (.iload_n 1, 1) := by decide +kernel
theorem dX10_part_25 : decode cX10_part 25 = .ok (.bipush 45, 2) := by decide +kernel
theorem dX10_part_27 : decode cX10_part 27 = .ok (.if_icmp .ne 8, 3) := by decide +kernel
theorem dX10_part_30 : decode cX10_part 30 = .ok (.aload_n 0, 1) := by decide +kernel
theorem dX10_part_31 : decode cX10_part 31 = .ok (.invokevirtual 100, 3) := by decide +kernel
theorem dX10_part_34 : decode cX10_part 34 = .ok (.ireturn, 1) := by decide +kernel
theorem dX10_part_35 : decode cX10_part 35 = .ok (.iload_n 1, 1) := by decide +kernel
theorem dX10_part_36 : decode cX10_part 36 = .ok (.bipush 126, 2) := by decide +kernel
theorem dX10_part_38 : decode cX10_part 38 = .ok (.if_icmp .ne 35, 3) := by decide +kernel
theorem dX10_part_41 : decode cX10_part 41 = .ok (.aload_n 0, 1) := by decide +kernel
theorem dX10_part_42 : decode cX10_part 42 = .ok (.dup, 1) := by decide +kernel
theorem dX10_part_43 : decode cX10_part 43 = .ok (.getfield 15, 3) := by decide +kernel
theorem dX10_part_46 : decode cX10_part 46 = .ok (.iconst 1, 1) := by decide +kernel
theorem dX10_part_47 : decode cX10_part 47 = .ok (.iadd, 1) := by decide +kernel
theorem dX10_part_48 : decode cX10_part 48 = .ok (.putfield 15, 3) := by decide +kernel
theorem dX10_part_51 : decode cX10_part 51 = .ok (.aload_n 0, 1) := by decide +kernel
theorem dX10_part_52 : decode cX10_part 52 = .ok (.getfield 9, 3) := by decide +kernel
theorem dX10_part_55 : decode cX10_part 55 = .ok (.new 49, 3) := by decide +kernel
theorem dX10_part_58 : decode cX10_part 58 = .ok (.dup, 1) := by decide +kernel
theorem dX10_part_59 : decode cX10_part 59 = .ok (.iconst 3, 1) := by decide +kernel
theorem dX10_part_60 : decode cX10_part 60 = .ok (.aload_n 0, 1) := by decide +kernel
theorem dX10_part_61 : decode cX10_part 61 = .ok (.getfield 15, 3) := by decide +kernel
theorem dX10_part_64 : decode cX10_part 64 = .ok (.iconst 1, 1) := by decide +kernel
theorem dX10_part_65 : decode cX10_part 65 = .ok (.isub, 1) := by decide +kernel
theorem dX10_part_66 : decode cX10_part 66 = .ok (.invokespecial 51, 3) := by decide +kernel
theorem dX10_part_69 : decode cX10_part 69 = .ok (.invokevirtual 60, 3) := by decide +kernel
theorem dX10_part_72 : decode cX10_part 72 = .ok (.ireturn, 1) := by decide +kernel
theorem dX10_part_73 : decode cX10_part 73 = .ok (.iload_n 1, 1) := by decide +kernel
theorem dX10_part_74 : decode cX10_part 74 = .ok (.bipush 91, 2) := by decide +kernel
theorem dX10_part_76 : decode cX10_part 76 = .ok (.if_icmp .eq 29, 3) := by decide +kernel
theorem dX10_part_79 : decode cX10_part 79 = .ok (.iload_n 1, 1) := by decide +kernel
theorem dX10_part_80 : decode cX10_part 80 = .ok (.bipush 60, 2) := by decide +kernel
theorem dX10_part_82 : decode cX10_part 82 = .ok (.if_icmp .eq 23, 3) := by decide +kernel
theorem dX10_part_85 : decode cX10_part 85 = .ok (.iload_n 1, 1) := by decide +kernel
theorem dX10_part_86 : decode cX10_part 86 = .ok (.bipush 123, 2) := by decide +kernel
theorem dX10_part_88 : decode cX10_part 88 = .ok (.if_icmp .eq 17, 3) := by decide +kernel
theorem dX10_part_91 : decode cX10_part 91 = .ok (.aload_n 0, 1) := by decide +kernel
theorem dX10_part_92 : decode cX10_part 92 = .ok (.getfield 28, 3) := by decide +kernel
theorem dX10_part_95 : decode cX10_part 95 = .ok (.iconst 1, 1) := by decide +kernel
theorem dX10_part_96 : decode cX10_part 96 = .ok (.aload_n 0, 1) := by decide +kernel
theorem dX10_part_97 : decode cX10_part 97 = .ok (.getfield 15, 3) := by decide +kernel
theorem dX10_part_100 : decode cX10_part 100 = .ok (.invokevirtual 32, 3) := by decide +kernel
theorem dX10_part_103 : decode cX10_part 103 = .ok (.iconst 0, 1) := by decide +kernel
theorem dX10_part_104 : decode cX10_part 104 = .ok (.ireturn, 1) := by decide +kernel
theorem dX10_part_105 : decode cX10_part 105 = .ok (.aload_n 0, 1) := by decide +kernel
theorem dX10_part_106 : decode cX10_part 106 = .ok (.getfield 28, 3) := by decide +kernel
theorem dX10_part_109 : decode cX10_part 109 = .ok (.aload_n 0, 1) := by decide +kernel
theorem dX10_part_110 : decode cX10_part 110 = .ok (.getfield 15, 3) := by decide +kernel
theorem dX10_part_113 : decode cX10_part 113 = .ok (.invokevirtual 103, 3) := by decide +kernel
theorem dX10_part_116 : decode cX10_part 116 = .ok (.ifCond .ne 5, 3) := by decide +kernel
theorem dX10_part_119 : decode cX10_part 119 = .ok (.iconst 0, 1) := by decide +kernel
theorem dX10_part_120 : decode cX10_part 120 = .ok (.ireturn, 1) := by decide +kernel
theorem dX10_part_121 : decode cX10_part 121 = .ok (.iload_n 1, 1) := by decide +kernel
theorem dX10_part_122 : decode cX10_part 122 = .ok (.bipush 91, 2) := by decide +kernel
theorem dX10_part_124 : decode cX10_part 124 = .ok (.if_icmp .ne 10, 3) := by decide +kernel
theorem dX10_part_127 : decode cX10_part 127 = .ok (.aload_n 0, 1) := by decide +kernel
theorem dX10_part_128 : decode cX10_part 128 = .ok (.invokevirtual 106, 3) := by decide +kernel
theorem dX10_part_131 : decode cX10_part 131 = .ok (.goto 20, 3) := by decide +kernel
theorem dX10_part_134 : decode cX10_part 134 = .ok (.iload_n 1, 1) := by decide +kernel
theorem dX10_part_135 : decode cX10_part 135 = .ok (.bipush 60, 2) := by decide +kernel
theorem dX10_part_137 : decode cX10_part 137 = .ok (.if_icmp .ne 10, 3) := by decide +kernel
theorem dX10_part_140 : decode cX10_part 140 = .ok (.aload_n 0, 1) := by decide +kernel
theorem dX10_part_141 : decode cX10_part 141 = .ok (.invokevirtual 109, 3) := by decide +kernel
theorem dX10_part_144 : decode cX10_part 144 = .ok (.goto 7, 3) := by decide +kernel
theorem dX10_part_147 : decode cX10_part 147 = .ok (.aload_n 0, 1) := by decide +kernel
theorem dX10_part_148 : decode cX10_part 148 = .ok (.invokevirtual 112, 3) := by decide +kernel
theorem dX10_part_151 : decode cX10_part 151 = .ok (.ireturn, 1) := by decide +kernel
theorem dX10_word_0 : decode cX10_word 0 = .ok (.new 49, 3) := by decide +kernel
theorem dX10_word_3 : decode cX10_word 3 = .ok (.dup, 1) := by decide +kernel
theorem dX10_word_4 : decode cX10_word 4 = .ok (.iconst 1, 1) := by decide +kernel
theorem dX10_word_5 : decode cX10_word 5 = .ok (.aload_n 0, 1) := by decide +kernel
theorem dX10_word_6 : decode cX10_word 6 = .ok (.getfield 15, 3) := by decide +kernel
theorem dX10_word_9 : decode cX10_word 9 = .ok (.invokespecial 51, 3) := by decide +kernel
theorem dX10_word_12 : decode cX10_word 12 = .ok (.astore_n 1, 1) := by decide +kernel
theorem dX10_word_13 : decode cX10_word 13 = .ok (.iconst 0, 1) := by decide +kernel
theorem dX10_word_14 : decode cX10_word 14 = .ok (.istore_n 2, 1) := by decide +kernel
theorem dX10_word_15 : decode cX10_word 15 = .ok (.iload_n 2, 1) := by decide +kernel
theorem dX10_word_16 : decode cX10_word 16 = .ok (.bipush 8, 2) := by decide +kernel
theorem dX10_word_18 : decode cX10_word 18 = .ok (.if_icmp .gt 68, 3) := by decide +kernel
theorem dX10_word_21 : decode cX10_word 21 = .ok (.aload_n 0, 1) := by decide +kernel
theorem dX10_word_22 : decode cX10_word 22 = .ok (.invokevirtual 45, 3) := by decide +kernel
theorem dX10_word_25 : decode cX10_word 25 = .ok (.invokestatic 91, 3) := by decide +kernel
theorem dX10_word_28 : decode cX10_word 28 = .ok (.ifCond .eq 58, 3) := by decide +kernel
theorem dX10_word_31 : decode cX10_word 31 = .ok (.iload_n 2, 1) := by decide +kernel
theorem dX10_word_32 : decode cX10_word 32 = .ok (.bipush 8, 2) := by decide +kernel
theorem dX10_word_34 : decode cX10_word 34 = .ok (.if_icmp .ne 17, 3) := by decide +kernel
theorem dX10_word_37 : decode cX10_word 37 = .ok (.aload_n 0, 1) := by decide +kernel
theorem dX10_word_38 : decode cX10_word 38 = .ok (.getfield 28, 3) := by decide +kernel
theorem dX10_word_41 : decode cX10_word 41 = .ok (.iconst 1, 1) := by decide +kernel
theorem dX10_word_42 : decode cX10_word 42 = .ok (.aload_n 0, 1) := by decide +kernel
theorem dX10_word_43 : decode cX10_word 43 = .ok (.getfield 15, 3) := by decide +kernel
theorem dX10_word_46 : decode cX10_word 46 = .ok (.invokevirtual 32, 3) := by decide +kernel
theorem dX10_word_49 : decode cX10_word 49 = .ok (.iconst 0, 1) := by decide +kernel
theorem dX10_word_50 : decode cX10_word 50 = .ok (.ireturn, 1) := by decide +kernel
theorem dX10_word_51 : decode cX10_word 51 = .ok (.aload_n 1, 1) := by decide +kernel
theorem dX10_word_52 : decode cX10_word 52 = .ok (.dup, 1) := by decide +kernel
theorem dX10_word_53 : decode cX10_word 53 = .ok (.getfield 115, 3) := by decide +kernel
theorem dX10_word_56 : decode cX10_word 56 = .ok (.aload_n 0, 1) := by decide +kernel
theorem dX10_word_57 : decode cX10_word 57 = .ok (.invokevirtual 45, 3) := by decide +kernel
theorem dX10_word_60 : decode cX10_word 60 = .ok (.i2l, 1) := by decide +kernel
theorem dX10_word_61 : decode cX10_word 61 = .ok (.bipush 8, 2) := by decide +kernel
theorem dX10_word_63 : decode cX10_word 63 = .ok (.iload_n 2, 1) := by decide +kernel
theorem dX10_word_64 : decode cX10_word 64 = .ok (.imul, 1) := by decide +kernel
theorem dX10_word_65 : decode cX10_word 65 = .ok (.lshl, 1) := by decide +kernel
theorem dX10_word_66 : decode cX10_word 66 = .ok (.lor, 1) := by decide +kernel
theorem dX10_word_67 : decode cX10_word 67 = .ok (.putfield 115, 3) := by decide +kernel
theorem dX10_word_70 : decode cX10_word 70 = .ok (.aload_n 0, 1) := by decide +kernel
theorem dX10_word_71 : decode cX10_word 71 = .ok (.dup, 1) := by decide +kernel
theorem dX10_word_72 : decode cX10_word 72 = .ok (.getfield 15, 3) := by decide +kernel
theorem dX10_word_75 : decode cX10_word 75 = .ok (.iconst 1, 1) := by decide +kernel
theorem dX10_word_76 : decode cX10_word 76 = .ok (.iadd, 1) := by decide +kernel
theorem dX10_word_77 : decode cX10_word 77 = .ok (.putfield 15, 3) := by decide +kernel
theorem dX10_word_80 : decode cX10_word 80 = .ok (.iinc 2 1, 3) := by decide +kernel
theorem dX10_word_83 : decode cX10_word 83 = .ok (.goto (-68), 3) := by decide +kernel
theorem dX10_word_86 : decode cX10_word 86 = .ok (.aload_n 0, 1) := by decide +kernel
theorem dX10_word_87 : decode cX10_word 87 = .ok (.getfield 9, 3) := by decide +kernel
theorem dX10_word_90 : decode cX10_word 90 = .ok (.aload_n 1, 1) := by decide +kernel
theorem dX10_word_91 : decode cX10_word 91 = .ok (.invokevirtual 60, 3) := by decide +kernel
theorem dX10_word_94 : decode cX10_word 94 = .ok (.ireturn, 1) := by decide +kernel
theorem dX10_signedNumber_0 : decode cX10_signedNumber 0 = .ok (.aload_n 0, 1) := by decide +kernel
theorem dX10_signedNumber_1 : decode cX10_signedNumber 1 = .ok (.getfield 15, 3) := by decide +kernel
theorem dX10_signedNumber_4 : decode cX10_signedNumber 4 = .ok (.istore_n 1, 1) := by decide +kernel
theorem dX10_signedNumber_5 : decode cX10_signedNumber 5 = .ok (.aload_n 0, 1) := by decide +kernel
theorem dX10_signedNumber_6 : decode cX10_signedNumber 6 = .ok (.invokevirtual 45, 3) := by decide +kernel
theorem dX10_signedNumber_9 : decode cX10_signedNumber 9 = .ok (.bipush 45, 2) := by decide +kernel
theorem dX10_signedNumber_11 : decode cX10_signedNumber 11 = .ok (.if_icmp .ne 7, 3) := by decide +kernel
theorem dX10_signedNumber_14 : decode cX10_signedNumber 14 = .ok (.iconst 1, 1) := by decide +kernel
theorem dX10_signedNumber_15 : decode cX10_signedNumber 15 = .ok (.goto 4, 3) := by decide +kernel
theorem dX10_signedNumber_18 : decode cX10_signedNumber 18 = .ok (.iconst 0, 1) := by decide +kernel
theorem dX10_signedNumber_19 : decode cX10_signedNumber 19 = .ok (.istore_n 2, 1) := by decide +kernel
theorem dX10_signedNumber_20 : decode cX10_signedNumber 20 = .ok (.aload_n 0, 1) := by decide +kernel
theorem dX10_signedNumber_21 : decode cX10_signedNumber 21 = .ok (.dup, 1) := by decide +kernel
theorem dX10_signedNumber_22 : decode cX10_signedNumber 22 = .ok (.getfield 15, 3) := by decide +kernel
theorem dX10_signedNumber_25 : decode cX10_signedNumber 25 = .ok (.iload_n 2, 1) := by decide +kernel
theorem dX10_signedNumber_26 : decode cX10_signedNumber 26 = .ok (.ifCond .eq 7, 3) := by decide +kernel
theorem dX10_signedNumber_29 : decode cX10_signedNumber 29 = .ok (.iconst 1, 1) := by decide +kernel
theorem dX10_signedNumber_30 : decode cX10_signedNumber 30 = .ok (.goto 4, 3) := by decide +kernel
theorem dX10_signedNumber_33 : decode cX10_signedNumber 33 = .ok (.iconst 0, 1) := by decide +kernel
theorem dX10_signedNumber_34 : decode cX10_signedNumber 34 = .ok (.iadd, 1) := by decide +kernel
theorem dX10_signedNumber_35 : decode cX10_signedNumber 35 = .ok (.putfield 15, 3) := by decide +kernel
theorem dX10_signedNumber_38 : decode cX10_signedNumber 38 = .ok (.aload_n 0, 1) := by decide +kernel
theorem dX10_signedNumber_39 : decode cX10_signedNumber 39 = .ok (.bipush 6, 2) := by decide +kernel
theorem dX10_signedNumber_41 : decode cX10_signedNumber 41 = .ok (.invokevirtual 118, 3) := by decide +kernel
theorem dX10_signedNumber_44 : decode cX10_signedNumber 44 = .ok (.istore_n 3, 1) := by decide +kernel
theorem dX10_signedNumber_45 : decode cX10_signedNumber 45 = .ok (.iload_n 3, 1) := by decide +kernel
theorem dX10_signedNumber_46 : decode cX10_signedNumber 46 = .ok (.iconst (-1), 1) := by decide +kernel
theorem dX10_signedNumber_47 : decode cX10_signedNumber 47 = .ok (.if_icmp .ne 17, 3) := by decide +kernel
theorem dX10_signedNumber_50 : decode cX10_signedNumber 50 = .ok (.aload_n 0, 1) := by decide +kernel
theorem dX10_signedNumber_51 : decode cX10_signedNumber 51 = .ok (.getfield 28, 3) := by decide +kernel
theorem dX10_signedNumber_54 : decode cX10_signedNumber 54 = .ok (.iconst 1, 1) := by decide +kernel
theorem dX10_signedNumber_55 : decode cX10_signedNumber 55 = .ok (.aload_n 0, 1) := by decide +kernel
theorem dX10_signedNumber_56 : decode cX10_signedNumber 56 = .ok (.getfield 15, 3) := by decide +kernel
theorem dX10_signedNumber_59 : decode cX10_signedNumber 59 = .ok (.invokevirtual 32, 3) := by decide +kernel
theorem dX10_signedNumber_62 : decode cX10_signedNumber 62 = .ok (.iconst 0, 1) := by decide +kernel
theorem dX10_signedNumber_63 : decode cX10_signedNumber 63 = .ok (.ireturn, 1) := by decide +kernel
theorem dX10_signedNumber_64 : decode cX10_signedNumber 64 = .ok (.aload_n 0, 1) := by decide +kernel
theorem dX10_signedNumber_65 : decode cX10_signedNumber 65 = .ok (.getfield 9, 3) := by decide +kernel
theorem dX10_signedNumber_68 : decode cX10_signedNumber 68 = .ok (.new 49, 3) := by decide +kernel
theorem dX10_signedNumber_71 : decode cX10_signedNumber 71 = .ok (.dup, 1) := by decide +kernel
theorem dX10_signedNumber_72 : decode cX10_signedNumber 72 = .ok (.iconst 2, 1) := by decide +kernel
theorem dX10_signedNumber_73 : decode cX10_signedNumber 73 = .ok (.iload_n 1, 1) := by decide +kernel
theorem dX10_signedNumber_74 : decode cX10_signedNumber 74 = .ok (.iload_n 2, 1) := by decide +kernel
theorem dX10_signedNumber_75 : decode cX10_signedNumber 75 = .ok (.ifCond .eq 8, 3) := by decide +kernel
theorem dX10_signedNumber_78 : decode cX10_signedNumber 78 = .ok (.iload_n 3, 1) := by decide +kernel
theorem dX10_signedNumber_79 : decode cX10_signedNumber 79 = .ok (.ineg, 1) := by decide +kernel
theorem dX10_signedNumber_80 : decode cX10_signedNumber 80 = .ok (.goto 4, 3) := by decide +kernel
theorem dX10_signedNumber_83 : decode cX10_signedNumber 83 = .ok (.iload_n 3, 1) := by decide +kernel
theorem dX10_signedNumber_84 : decode cX10_signedNumber 84 = .ok (.iconst 0, 1) := by decide +kernel
theorem dX10_signedNumber_85 : decode cX10_signedNumber 85 = .ok (.invokespecial 121, 3) := by decide +kernel
theorem dX10_signedNumber_88 : decode cX10_signedNumber 88 = .ok (.invokevirtual 60, 3) := by decide +kernel
theorem dX10_signedNumber_91 : decode cX10_signedNumber 91 = .ok (.ireturn, 1) := by decide +kernel
theorem dX10_bracket_0 : decode cX10_bracket 0 = .ok (.new 49, 3) := by decide +kernel
theorem dX10_bracket_3 : decode cX10_bracket 3 = .ok (.dup, 1) := by decide +kernel
theorem dX10_bracket_4 : decode cX10_bracket 4 = .ok (.bipush 8, 2) := by decide +kernel
theorem dX10_bracket_6 : decode cX10_bracket 6 = .ok (.aload_n 0, 1) := by decide +kernel
theorem dX10_bracket_7 : decode cX10_bracket 7 = .ok (.getfield 15, 3) := by decide +kernel
theorem dX10_bracket_10 : decode cX10_bracket 10 = .ok (.invokespecial 51, 3) := by decide +kernel
theorem dX10_bracket_13 : decode cX10_bracket 13 = .ok (.astore_n 1, 1) := by decide +kernel
theorem dX10_bracket_14 : decode cX10_bracket 14 = .ok (.iconst 1, 1) := by decide +kernel
theorem dX10_bracket_15 : decode cX10_bracket 15 = .ok (.istore_n 2, 1) := by decide +kernel
theorem dX10_bracket_16 : decode cX10_bracket 16 = .ok (.iconst 0, 1) := by decide +kernel
theorem dX10_bracket_17 : decode cX10_bracket 17 = .ok (.istore_n 3, 1) := by decide +kernel
theorem dX10_bracket_18 : decode cX10_bracket 18 = .ok (.iload_n 3, 1) := by decide +kernel
theorem dX10_bracket_19 : decode cX10_bracket 19 = .ok (.sipush 2000, 3) := by decide +kernel
theorem dX10_bracket_22 : decode cX10_bracket 22 = .ok (.if_icmp .ge 57, 3) := by decide +kernel
theorem dX10_bracket_25 : decode cX10_bracket 25 = .ok (.iload_n 2, 1) := by decide +kernel
theorem dX10_bracket_26 : decode cX10_bracket 26 = .ok (.ifCond .eq 53, 3) := by decide +kernel
theorem dX10_bracket_29 : decode cX10_bracket 29 = .ok (.aload_n 0, 1) := by decide +kernel
theorem dX10_bracket_30 : decode cX10_bracket 30 = .ok (.getfield 28, 3) := by decide +kernel
theorem dX10_bracket_33 : decode cX10_bracket 33 = .ok (.getfield 57, 3) := by decide +kernel
theorem dX10_bracket_36 : decode cX10_bracket 36 = .ok (.ifCond .ne 43, 3) := by decide +kernel
theorem dX10_bracket_39 : decode cX10_bracket 39 = .ok (.aload_n 0, 1) := by decide +kernel
theorem dX10_bracket_40 : decode cX10_bracket 40 = .ok (.dup, 1) := by decide +kernel
theorem dX10_bracket_41 : decode cX10_bracket 41 = .ok (.getfield 15, 3) := by decide +kernel
theorem dX10_bracket_44 : decode cX10_bracket 44 = .ok (.iconst 1, 1) := by decide +kernel
theorem dX10_bracket_45 : decode cX10_bracket 45 = .ok (.iadd, 1) := by decide +kernel
theorem dX10_bracket_46 : decode cX10_bracket 46 = .ok (.putfield 15, 3) := by decide +kernel
theorem dX10_bracket_49 : decode cX10_bracket 49 = .ok (.aload_n 1, 1) := by decide +kernel
theorem dX10_bracket_50 : decode cX10_bracket 50 = .ok (.aload_n 0, 1) := by decide +kernel
theorem dX10_bracket_51 : decode cX10_bracket 51 = .ok (.invokevirtual 124, 3) := by decide +kernel
theorem dX10_bracket_54 : decode cX10_bracket 54 = .ok (.invokevirtual 127, 3) := by decide +kernel
theorem dX10_bracket_57 : decode cX10_bracket 57 = .ok (.pop, 1) := by decide +kernel
theorem dX10_bracket_58 : decode cX10_bracket 58 = .ok (.aload_n 0, 1) := by decide +kernel
theorem dX10_bracket_59 : decode cX10_bracket 59 = .ok (.invokevirtual 45, 3) := by decide +kernel
theorem dX10_bracket_62 : decode cX10_bracket 62 = .ok (.bipush 44, 2) := by decide +kernel
theorem dX10_bracket_64 : decode cX10_bracket 64 = .ok (.if_icmp .ne 7, 3) := by decide +kernel
theorem dX10_bracket_67 : decode cX10_bracket 67 = .ok (.iconst 1, 1) := by decide +kernel
theorem dX10_bracket_68 : decode cX10_bracket 68 = .ok (.goto 4, 3) := by decide +kernel
theorem dX10_bracket_71 : decode cX10_bracket 71 = .ok (.iconst 0, 1) := by decide +kernel
theorem dX10_bracket_72 : decode cX10_bracket 72 = .ok (.istore_n 2, 1) := by decide +kernel
theorem dX10_bracket_73 : decode cX10_bracket 73 = .ok (.iinc 3 1, 3) := by decide +kernel
theorem dX10_bracket_76 : decode cX10_bracket 76 = .ok (.goto (-58), 3) := by decide +kernel
theorem dX10_bracket_79 : decode cX10_bracket 79 = .ok (.aload_n 0, 1) := by decide +kernel
theorem dX10_bracket_80 : decode cX10_bracket 80 = .ok (.bipush 93, 2) := by decide +kernel
theorem dX10_bracket_82 : decode cX10_bracket 82 = .ok (.invokevirtual 131, 3) := by decide +kernel
theorem dX10_bracket_85 : decode cX10_bracket 85 = .ok (.aload_n 0, 1) := by decide +kernel
theorem dX10_bracket_86 : decode cX10_bracket 86 = .ok (.getfield 28, 3) := by decide +kernel
theorem dX10_bracket_89 : decode cX10_bracket 89 = .ok (.dup, 1) := by decide +kernel
theorem dX10_bracket_90 : decode cX10_bracket 90 = .ok (.getfield 135, 3) := by decide +kernel
theorem dX10_bracket_93 : decode cX10_bracket 93 = .ok (.iconst 1, 1) := by decide +kernel
theorem dX10_bracket_94 : decode cX10_bracket 94 = .ok (.isub, 1) := by decide +kernel
theorem dX10_bracket_95 : decode cX10_bracket 95 = .ok (.putfield 135, 3) := by decide +kernel
theorem dX10_bracket_98 : decode cX10_bracket 98 = .ok (.aload_n 0, 1) := by decide +kernel
theorem dX10_bracket_99 : decode cX10_bracket 99 = .ok (.getfield 28, 3) := by decide +kernel
theorem dX10_bracket_102 : decode cX10_bracket 102 = .ok (.getfield 57, 3) := by decide +kernel
theorem dX10_bracket_105 : decode cX10_bracket 105 = .ok (.ifCond .eq 5, 3) := by decide +kernel
theorem dX10_bracket_108 : decode cX10_bracket 108 = .ok (.iconst 0, 1) := by decide +kernel
theorem dX10_bracket_109 : decode cX10_bracket 109 = .ok (.ireturn, 1) := by decide +kernel
theorem dX10_bracket_110 : decode cX10_bracket 110 = .ok (.aload_n 1, 1) := by decide +kernel
theorem dX10_bracket_111 : decode cX10_bracket 111 = .ok (.getfield 138, 3) := by decide +kernel
theorem dX10_bracket_114 : decode cX10_bracket 114 = .ok (.iconst 1, 1) := by decide +kernel
theorem dX10_bracket_115 : decode cX10_bracket 115 = .ok (.if_icmp .ne 12, 3) := by decide +kernel
theorem dX10_bracket_118 : decode cX10_bracket 118 = .ok (.aload_n 1, 1) := by decide +kernel
theorem dX10_bracket_119 : decode cX10_bracket 119 = .ok (.getfield 141, 3) := by decide +kernel
theorem dX10_bracket_122 : decode cX10_bracket 122 = .ok (.iconst 0, 1) := by decide +kernel
theorem dX10_bracket_123 : decode cX10_bracket 123 = .ok (.iaload, 1) := by decide +kernel
theorem dX10_bracket_124 : decode cX10_bracket 124 = .ok (.goto 11, 3) := by decide +kernel
theorem dX10_bracket_127 : decode cX10_bracket 127 = .ok (.aload_n 0, 1) := by decide +kernel
theorem dX10_bracket_128 : decode cX10_bracket 128 = .ok (.getfield 9, 3) := by decide +kernel
theorem dX10_bracket_131 : decode cX10_bracket 131 = .ok (.aload_n 1, 1) := by decide +kernel
theorem dX10_bracket_132 : decode cX10_bracket 132 = .ok (.invokevirtual 60, 3) := by decide +kernel
theorem dX10_bracket_135 : decode cX10_bracket 135 = .ok (.ireturn, 1) := by decide +kernel
theorem dX10_turn_0 : decode cX10_turn 0 = .ok (.new 49, 3) := by decide +kernel
theorem dX10_turn_3 : decode cX10_turn 3 = .ok (.dup, 1) := by decide +kernel
theorem dX10_turn_4 : decode cX10_turn 4 = .ok (.iconst 5, 1) := by decide +kernel
theorem dX10_turn_5 : decode cX10_turn 5 = .ok (.aload_n 0, 1) := by decide +kernel
theorem dX10_turn_6 : decode cX10_turn 6 = .ok (.getfield 15, 3) := by decide +kernel
theorem dX10_turn_9 : decode cX10_turn 9 = .ok (.invokespecial 51, 3) := by decide +kernel
theorem dX10_turn_12 : decode cX10_turn 12 = .ok (.astore_n 1, 1) := by decide +kernel
theorem dX10_turn_13 : decode cX10_turn 13 = .ok (.aload_n 0, 1) := by decide +kernel
theorem dX10_turn_14 : decode cX10_turn 14 = .ok (.dup, 1) := by decide +kernel
theorem dX10_turn_15 : decode cX10_turn 15 = .ok (.getfield 15, 3) := by decide +kernel
theorem dX10_turn_18 : decode cX10_turn 18 = .ok (.iconst 1, 1) := by decide +kernel
theorem dX10_turn_19 : decode cX10_turn 19 = .ok (.iadd, 1) := by decide +kernel
theorem dX10_turn_20 : decode cX10_turn 20 = .ok (.putfield 15, 3) := by decide +kernel
theorem dX10_turn_23 : decode cX10_turn 23 = .ok (.aload_n 0, 1) := by decide +kernel
theorem dX10_turn_24 : decode cX10_turn 24 = .ok (.aload_n 1, 1) := by decide +kernel
theorem dX10_turn_25 : decode cX10_turn 25 = .ok (.invokevirtual 53, 3) := by decide +kernel
theorem dX10_turn_28 : decode cX10_turn 28 = .ok (.aload_n 0, 1) := by decide +kernel
theorem dX10_turn_29 : decode cX10_turn 29 = .ok (.bipush 62, 2) := by decide +kernel
theorem dX10_turn_31 : decode cX10_turn 31 = .ok (.invokevirtual 131, 3) := by decide +kernel
theorem dX10_turn_34 : decode cX10_turn 34 = .ok (.aload_n 0, 1) := by decide +kernel
theorem dX10_turn_35 : decode cX10_turn 35 = .ok (.getfield 28, 3) := by decide +kernel
theorem dX10_turn_38 : decode cX10_turn 38 = .ok (.dup, 1) := by decide +kernel
theorem dX10_turn_39 : decode cX10_turn 39 = .ok (.getfield 135, 3) := by decide +kernel
theorem dX10_turn_42 : decode cX10_turn 42 = .ok (.iconst 1, 1) := by decide +kernel
theorem dX10_turn_43 : decode cX10_turn 43 = .ok (.isub, 1) := by decide +kernel
theorem dX10_turn_44 : decode cX10_turn 44 = .ok (.putfield 135, 3) := by decide +kernel
theorem dX10_turn_47 : decode cX10_turn 47 = .ok (.aload_n 0, 1) := by decide +kernel
theorem dX10_turn_48 : decode cX10_turn 48 = .ok (.getfield 28, 3) := by decide +kernel
theorem dX10_turn_51 : decode cX10_turn 51 = .ok (.getfield 57, 3) := by decide +kernel
theorem dX10_turn_54 : decode cX10_turn 54 = .ok (.ifCond .ne 14, 3) := by decide +kernel
theorem dX10_turn_57 : decode cX10_turn 57 = .ok (.aload_n 0, 1) := by decide +kernel
theorem dX10_turn_58 : decode cX10_turn 58 = .ok (.getfield 9, 3) := by decide +kernel
theorem dX10_turn_61 : decode cX10_turn 61 = .ok (.aload_n 1, 1) := by decide +kernel
theorem dX10_turn_62 : decode cX10_turn 62 = .ok (.invokevirtual 60, 3) := by decide +kernel
theorem dX10_turn_65 : decode cX10_turn 65 = .ok (.goto 4, 3) := by decide +kernel
theorem dX10_turn_68 : decode cX10_turn 68 = .ok (.iconst 0, 1) := by decide +kernel
theorem dX10_turn_69 : decode cX10_turn 69 = .ok (.ireturn, 1) := by decide +kernel
theorem dX10_poly_0 : decode cX10_poly 0 = .ok (.new 49, 3) := by decide +kernel
theorem dX10_poly_3 : decode cX10_poly 3 = .ok (.dup, 1) := by decide +kernel
theorem dX10_poly_4 : decode cX10_poly 4 = .ok (.bipush 6, 2) := by decide +kernel
theorem dX10_poly_6 : decode cX10_poly 6 = .ok (.aload_n 0, 1) := by decide +kernel
theorem dX10_poly_7 : decode cX10_poly 7 = .ok (.getfield 15, 3) := by decide +kernel
theorem dX10_poly_10 : decode cX10_poly 10 = .ok (.invokespecial 51, 3) := by decide +kernel
theorem dX10_poly_13 : decode cX10_poly 13 = .ok (.astore_n 1, 1) := by decide +kernel
theorem dX10_poly_14 : decode cX10_poly 14 = .ok (.aload_n 0, 1) := by decide +kernel
theorem dX10_poly_15 : decode cX10_poly 15 = .ok (.dup, 1) := by decide +kernel
theorem dX10_poly_16 : decode cX10_poly 16 = .ok (.getfield 15, 3) := by decide +kernel
theorem dX10_poly_19 : decode cX10_poly 19 = .ok (.iconst 1, 1) := by decide +kernel
theorem dX10_poly_20 : decode cX10_poly 20 = .ok (.iadd, 1) := by decide +kernel
theorem dX10_poly_21 : decode cX10_poly 21 = .ok (.putfield 15, 3) := by decide +kernel
theorem dX10_poly_24 : decode cX10_poly 24 = .ok (.aload_n 0, 1) := by decide +kernel
theorem dX10_poly_25 : decode cX10_poly 25 = .ok (.aload_n 1, 1) := by decide +kernel
theorem dX10_poly_26 : decode cX10_poly 26 = .ok (.invokevirtual 53, 3) := by decide +kernel
theorem dX10_poly_29 : decode cX10_poly 29 = .ok (.aload_n 0, 1) := by decide +kernel
theorem dX10_poly_30 : decode cX10_poly 30 = .ok (.bipush 125, 2) := by decide +kernel
theorem dX10_poly_32 : decode cX10_poly 32 = .ok (.invokevirtual 131, 3) := by decide +kernel
theorem dX10_poly_35 : decode cX10_poly 35 = .ok (.aload_n 0, 1) := by decide +kernel
theorem dX10_poly_36 : decode cX10_poly 36 = .ok (.getfield 28, 3) := by decide +kernel
theorem dX10_poly_39 : decode cX10_poly 39 = .ok (.dup, 1) := by decide +kernel
theorem dX10_poly_40 : decode cX10_poly 40 = .ok (.getfield 135, 3) := by decide +kernel
theorem dX10_poly_43 : decode cX10_poly 43 = .ok (.iconst 1, 1) := by decide +kernel
theorem dX10_poly_44 : decode cX10_poly 44 = .ok (.isub, 1) := by decide +kernel
theorem dX10_poly_45 : decode cX10_poly 45 = .ok (.putfield 135, 3) := by decide +kernel
theorem dX10_poly_48 : decode cX10_poly 48 = .ok (.aload_n 0, 1) := by decide +kernel
theorem dX10_poly_49 : decode cX10_poly 49 = .ok (.bipush 37, 2) := by decide +kernel
theorem dX10_poly_51 : decode cX10_poly 51 = .ok (.invokevirtual 131, 3) := by decide +kernel
theorem dX10_poly_54 : decode cX10_poly 54 = .ok (.aload_n 1, 1) := by decide +kernel
theorem dX10_poly_55 : decode cX10_poly 55 = .ok (.aload_n 0, 1) := by decide +kernel
theorem dX10_poly_56 : decode cX10_poly 56 = .ok (.getfield 28, 3) := by decide +kernel
theorem dX10_poly_59 : decode cX10_poly 59 = .ok (.getfield 57, 3) := by decide +kernel
theorem dX10_poly_62 : decode cX10_poly 62 = .ok (.ifCond .ne 13, 3) := by decide +kernel
theorem dX10_poly_65 : decode cX10_poly 65 = .ok (.aload_n 0, 1) := by decide +kernel
theorem dX10_poly_66 : decode cX10_poly 66 = .ok (.iconst 1, 1) := by decide +kernel
theorem dX10_poly_67 : decode cX10_poly 67 = .ok (.bipush 32, 2) := by decide +kernel
theorem dX10_poly_69 : decode cX10_poly 69 = .ok (.invokevirtual 87, 3) := by decide +kernel
theorem dX10_poly_72 : decode cX10_poly 72 = .ok (.goto 4, 3) := by decide +kernel
theorem dX10_poly_75 : decode cX10_poly 75 = .ok (.iconst 1, 1) := by decide +kernel
theorem dX10_poly_76 : decode cX10_poly 76 = .ok (.putfield 145, 3) := by decide +kernel
theorem dX10_poly_79 : decode cX10_poly 79 = .ok (.aload_n 0, 1) := by decide +kernel
theorem dX10_poly_80 : decode cX10_poly 80 = .ok (.getfield 28, 3) := by decide +kernel
theorem dX10_poly_83 : decode cX10_poly 83 = .ok (.getfield 57, 3) := by decide +kernel
theorem dX10_poly_86 : decode cX10_poly 86 = .ok (.ifCond .ne 14, 3) := by decide +kernel
theorem dX10_poly_89 : decode cX10_poly 89 = .ok (.aload_n 0, 1) := by decide +kernel
theorem dX10_poly_90 : decode cX10_poly 90 = .ok (.getfield 9, 3) := by decide +kernel
theorem dX10_poly_93 : decode cX10_poly 93 = .ok (.aload_n 1, 1) := by decide +kernel
theorem dX10_poly_94 : decode cX10_poly 94 = .ok (.invokevirtual 60, 3) := by decide +kernel
theorem dX10_poly_97 : decode cX10_poly 97 = .ok (.goto 4, 3) := by decide +kernel
theorem dX10_poly_100 : decode cX10_poly 100 = .ok (.iconst 0, 1) := by decide +kernel
theorem dX10_poly_101 : decode cX10_poly 101 = .ok (.ireturn, 1) := by decide +kernel
theorem dX10_mods_0 : decode cX10_mods 0 = .ok (.iload_n 1, 1) := by decide +kernel
theorem dX10_mods_1 : decode cX10_mods 1 = .ok (.istore_n 2, 1) := by decide +kernel
theorem dX10_mods_2 : decode cX10_mods 2 = .ok (.iconst 0, 1) := by decide +kernel
theorem dX10_mods_3 : decode cX10_mods 3 = .ok (.istore_n 3, 1) := by decide +kernel
theorem dX10_mods_4 : decode cX10_mods 4 = .ok (.iload_n 3, 1) := by decide +kernel
theorem dX10_mods_5 : decode cX10_mods 5 = .ok (.sipush 2000, 3) := by decide +kernel
theorem dX10_mods_8 : decode cX10_mods 8 = .ok (.if_icmp .ge 201, 3) := by decide +kernel
theorem dX10_mods_11 : decode cX10_mods 11 = .ok (.aload_n 0, 1) := by decide +kernel
theorem dX10_mods_12 : decode cX10_mods 12 = .ok (.getfield 28, 3) := by decide +kernel
theorem dX10_mods_15 : decode cX10_mods 15 = .ok (.getfield 57, 3) := by decide +kernel
theorem dX10_mods_18 : decode cX10_mods 18 = .ok (.ifCond .ne 191, 3) := by decide +kernel
theorem dX10_mods_21 : decode cX10_mods 21 = .ok (.aload_n 0, 1) := by decide +kernel
theorem dX10_mods_22 : decode cX10_mods 22 = .ok (.invokevirtual 42, 3) := by decide +kernel
theorem dX10_mods_25 : decode cX10_mods 25 = .ok (.aload_n 0, 1) := by decide +kernel
theorem dX10_mods_26 : decode cX10_mods 26 = .ok (.getfield 15, 3) := by decide +kernel
theorem dX10_mods_29 : decode cX10_mods 29 = .ok (.istore 4, 2) := by decide +kernel
theorem dX10_mods_31 : decode cX10_mods 31 = .ok (.aload_n 0, 1) := by decide +kernel
theorem dX10_mods_32 : decode cX10_mods 32 = .ok (.invokevirtual 45, 3) := by decide +kernel
theorem dX10_mods_35 : decode cX10_mods 35 = .ok (.istore 5, 2) := by decide +kernel
theorem dX10_mods_37 : decode cX10_mods 37 = .ok (.iload 5, 2) := by decide +kernel
theorem dX10_mods_39 : decode cX10_mods 39 = .ok (.bipush 42, 2) := by decide +kernel
theorem dX10_mods_41 : decode cX10_mods 41 = .ok (.if_icmp .eq 10, 3) := by decide +kernel
theorem dX10_mods_44 : decode cX10_mods 44 = .ok (.iload 5, 2) := by decide +kernel
theorem dX10_mods_46 : decode cX10_mods 46 = .ok (.bipush 47, 2) := by decide +kernel
theorem dX10_mods_48 : decode cX10_mods 48 = .ok (.if_icmp .ne 74, 3) := by decide +kernel
theorem dX10_mods_51 : decode cX10_mods 51 = .ok (.aload_n 0, 1) := by decide +kernel
theorem dX10_mods_52 : decode cX10_mods 52 = .ok (.dup, 1) := by decide +kernel
theorem dX10_mods_53 : decode cX10_mods 53 = .ok (.getfield 15, 3) := by decide +kernel
theorem dX10_mods_56 : decode cX10_mods 56 = .ok (.iconst 1, 1) := by decide +kernel
theorem dX10_mods_57 : decode cX10_mods 57 = .ok (.iadd, 1) := by decide +kernel
theorem dX10_mods_58 : decode cX10_mods 58 = .ok (.putfield 15, 3) := by decide +kernel
theorem dX10_mods_61 : decode cX10_mods 61 = .ok (.aload_n 0, 1) := by decide +kernel
theorem dX10_mods_62 : decode cX10_mods 62 = .ok (.iconst 1, 1) := by decide +kernel
theorem dX10_mods_63 : decode cX10_mods 63 = .ok (.bipush 32, 2) := by decide +kernel
theorem dX10_mods_65 : decode cX10_mods 65 = .ok (.invokevirtual 87, 3) := by decide +kernel
theorem dX10_mods_68 : decode cX10_mods 68 = .ok (.istore 6, 2) := by decide +kernel
theorem dX10_mods_70 : decode cX10_mods 70 = .ok (.aload_n 0, 1) := by decide +kernel
theorem dX10_mods_71 : decode cX10_mods 71 = .ok (.getfield 9, 3) := by decide +kernel
theorem dX10_mods_74 : decode cX10_mods 74 = .ok (.new 49, 3) := by decide +kernel
theorem dX10_mods_77 : decode cX10_mods 77 = .ok (.dup, 1) := by decide +kernel
theorem dX10_mods_78 : decode cX10_mods 78 = .ok (.bipush 9, 2) := by decide +kernel
theorem dX10_mods_80 : decode cX10_mods 80 = .ok (.iload 4, 2) := by decide +kernel
theorem dX10_mods_82 : decode cX10_mods 82 = .ok (.iload 5, 2) := by decide +kernel
theorem dX10_mods_84 : decode cX10_mods 84 = .ok (.bipush 42, 2) := by decide +kernel
theorem dX10_mods_86 : decode cX10_mods 86 = .ok (.if_icmp .ne 8, 3) := by decide +kernel
theorem dX10_mods_89 : decode cX10_mods 89 = .ok (.iload 6, 2) := by decide +kernel
theorem dX10_mods_91 : decode cX10_mods 91 = .ok (.goto 4, 3) := by decide +kernel
theorem dX10_mods_94 : decode cX10_mods 94 = .ok (.iconst 1, 1) := by decide +kernel
theorem dX10_mods_95 : decode cX10_mods 95 = .ok (.iload 5, 2) := by decide +kernel
theorem dX10_mods_97 : decode cX10_mods 97 = .ok (.bipush 42, 2) := by decide +kernel
theorem dX10_mods_99 : decode cX10_mods 99 = .ok (.if_icmp .ne 7, 3) := by decide +kernel
theorem dX10_mods_102 : decode cX10_mods 102 = .ok (.iconst 1, 1) := by decide +kernel
theorem dX10_mods_103 : decode cX10_mods 103 = .ok (.goto 5, 3) := by decide +kernel
theorem dX10_mods_106 : decode cX10_mods 106 = .ok (.iload 6, 2) := by decide +kernel
theorem dX10_mods_108 : decode cX10_mods 108 = .ok (.invokespecial 121, 3) := by decide +kernel
theorem dX10_mods_111 : decode cX10_mods 111 = .ok (.iload_n 2, 1) := by decide +kernel
theorem dX10_mods_112 : decode cX10_mods 112 = .ok (.invokevirtual 127, 3) := by decide +kernel
theorem dX10_mods_115 : decode cX10_mods 115 = .ok (.invokevirtual 60, 3) := by decide +kernel
theorem dX10_mods_118 : decode cX10_mods 118 = .ok (.istore_n 2, 1) := by decide +kernel
theorem dX10_mods_119 : decode cX10_mods 119 = .ok (.goto 84, 3) := by decide +kernel
theorem dX10_mods_122 : decode cX10_mods 122 = .ok (.iload 5, 2) := by decide +kernel
theorem dX10_mods_124 : decode cX10_mods 124 = .ok (.bipush 40, 2) := by decide +kernel
theorem dX10_mods_126 : decode cX10_mods 126 = .ok (.if_icmp .ne 12, 3) := by decide +kernel
theorem dX10_mods_129 : decode cX10_mods 129 = .ok (.aload_n 0, 1) := by decide +kernel
theorem dX10_mods_130 : decode cX10_mods 130 = .ok (.iload_n 2, 1) := by decide +kernel
theorem dX10_mods_131 : decode cX10_mods 131 = .ok (.invokevirtual 148, 3) := by decide +kernel
theorem dX10_mods_134 : decode cX10_mods 134 = .ok (.istore_n 2, 1) := by decide +kernel
theorem dX10_mods_135 : decode cX10_mods 135 = .ok (.goto 68, 3) := by decide +kernel
theorem dX10_mods_138 : decode cX10_mods 138 = .ok (.iload 5, 2) := by decide +kernel
theorem dX10_mods_140 : decode cX10_mods 140 = .ok (.bipush 63, 2) := by decide +kernel
theorem dX10_mods_142 : decode cX10_mods 142 = .ok (.if_icmp .ne 59, 3) := by decide +kernel
theorem dX10_mods_145 : decode cX10_mods 145 = .ok (.aload_n 0, 1) := by decide +kernel
theorem dX10_mods_146 : decode cX10_mods 146 = .ok (.dup, 1) := by decide +kernel
theorem dX10_mods_147 : decode cX10_mods 147 = .ok (.getfield 15, 3) := by decide +kernel
theorem dX10_mods_150 : decode cX10_mods 150 = .ok (.iconst 1, 1) := by decide +kernel
theorem dX10_mods_151 : decode cX10_mods 151 = .ok (.iadd, 1) := by decide +kernel
theorem dX10_mods_152 : decode cX10_mods 152 = .ok (.putfield 15, 3) := by decide +kernel
theorem dX10_mods_155 : decode cX10_mods 155 = .ok (.aload_n 0, 1) := by decide +kernel
theorem dX10_mods_156 : decode cX10_mods 156 = .ok (.getfield 9, 3) := by decide +kernel
theorem dX10_mods_159 : decode cX10_mods 159 = .ok (.new 49, 3) := by decide +kernel
theorem dX10_mods_162 : decode cX10_mods 162 = .ok (.dup, 1) := by decide +kernel
theorem dX10_mods_163 : decode cX10_mods 163 = .ok (.bipush 22, 2) := by decide +kernel
theorem dX10_mods_165 : decode cX10_mods 165 = .ok (.iload 4, 2) := by decide +kernel
theorem dX10_mods_167 : decode cX10_mods 167 = .ok (.sipush 500, 3) := by decide +kernel
theorem dX10_mods_170 : decode cX10_mods 170 = .ok (.aload_n 0, 1) := by decide +kernel
theorem dX10_mods_171 : decode cX10_mods 171 = .ok (.getfield 22, 3) := by decide +kernel
theorem dX10_mods_174 : decode cX10_mods 174 = .ok (.ldc 151, 2) := by decide +kernel
theorem dX10_mods_176 : decode cX10_mods 176 = .ok (.imul, 1) := by decide +kernel
theorem dX10_mods_177 : decode cX10_mods 177 = .ok (.invokespecial 121, 3) := by decide +kernel
theorem dX10_mods_180 : decode cX10_mods 180 = .ok (.iload_n 2, 1) := by decide +kernel
theorem dX10_mods_181 : decode cX10_mods 181 = .ok (.invokevirtual 127, 3) := by decide +kernel
theorem dX10_mods_184 : decode cX10_mods 184 = .ok (.invokevirtual 60, 3) := by decide +kernel
theorem dX10_mods_187 : decode cX10_mods 187 = .ok (.istore_n 2, 1) := by decide +kernel
theorem dX10_mods_188 : decode cX10_mods 188 = .ok (.aload_n 0, 1) := by decide +kernel
theorem dX10_mods_189 : decode cX10_mods 189 = .ok (.dup, 1) := by decide +kernel
theorem dX10_mods_190 : decode cX10_mods 190 = .ok (.getfield 22, 3) := by decide +kernel
theorem dX10_mods_193 : decode cX10_mods 193 = .ok (.iconst 1, 1) := by decide +kernel
theorem dX10_mods_194 : decode cX10_mods 194 = .ok (.iadd, 1) := by decide +kernel
theorem dX10_mods_195 : decode cX10_mods 195 = .ok (.putfield 22, 3) := by decide +kernel
theorem dX10_mods_198 : decode cX10_mods 198 = .ok (.goto 5, 3) := by decide +kernel
theorem dX10_mods_201 : decode cX10_mods 201 = .ok (.iload_n 2, 1) := by decide +kernel
theorem dX10_mods_202 : decode cX10_mods 202 = .ok (.ireturn, 1) := by decide +kernel
theorem dX10_mods_203 : decode cX10_mods 203 = .ok (.iinc 3 1, 3) := by decide +kernel
theorem dX10_mods_206 : decode cX10_mods 206 = .ok (.goto (-202), 3) := by decide +kernel
theorem dX10_mods_209 : decode cX10_mods 209 = .ok (.iload_n 2, 1) := by decide +kernel
theorem dX10_mods_210 : decode cX10_mods 210 = .ok (.ireturn, 1) := by decide +kernel
theorem dX10_euclid_0 : decode cX10_euclid 0 = .ok (.new 49, 3) := by decide +kernel
theorem dX10_euclid_3 : decode cX10_euclid 3 = .ok (.dup, 1) := by decide +kernel
theorem dX10_euclid_4 : decode cX10_euclid 4 = .ok (.bipush 7, 2) := by decide +kernel
theorem dX10_euclid_6 : decode cX10_euclid 6 = .ok (.aload_n 0, 1) := by decide +kernel
theorem dX10_euclid_7 : decode cX10_euclid 7 = .ok (.getfield 15, 3) := by decide +kernel
theorem dX10_euclid_10 : decode cX10_euclid 10 = .ok (.invokespecial 51, 3) := by decide +kernel
theorem dX10_euclid_13 : decode cX10_euclid 13 = .ok (.astore_n 2, 1) := by decide +kernel
theorem dX10_euclid_14 : decode cX10_euclid 14 = .ok (.aload_n 0, 1) := by decide +kernel
theorem dX10_euclid_15 : decode cX10_euclid 15 = .ok (.getfield 28, 3) := by decide +kernel
theorem dX10_euclid_18 : decode cX10_euclid 18 = .ok (.aload_n 0, 1) := by decide +kernel
theorem dX10_euclid_19 : decode cX10_euclid 19 = .ok (.getfield 15, 3) := by decide +kernel
theorem dX10_euclid_22 : decode cX10_euclid 22 = .ok (.invokevirtual 103, 3) := by decide +kernel
theorem dX10_euclid_25 : decode cX10_euclid 25 = .ok (.ifCond .ne 5, 3) := by decide +kernel
theorem dX10_euclid_28 : decode cX10_euclid 28 = .ok (.iconst 0, 1) := by decide +kernel
theorem dX10_euclid_29 : decode cX10_euclid 29 = .ok (.ireturn, 1) := by decide +kernel
theorem dX10_euclid_30 : decode cX10_euclid 30 = .ok (.aload_n 0, 1) := by decide +kernel
theorem dX10_euclid_31 : decode cX10_euclid 31 = .ok (.dup, 1) := by decide +kernel
theorem dX10_euclid_32 : decode cX10_euclid 32 = .ok (.getfield 15, 3) := by decide +kernel
theorem dX10_euclid_35 : decode cX10_euclid 35 = .ok (.iconst 1, 1) := by decide +kernel
theorem dX10_euclid_36 : decode cX10_euclid 36 = .ok (.iadd, 1) := by decide +kernel
theorem dX10_euclid_37 : decode cX10_euclid 37 = .ok (.putfield 15, 3) := by decide +kernel
theorem dX10_euclid_40 : decode cX10_euclid 40 = .ok (.aload_n 2, 1) := by decide +kernel
theorem dX10_euclid_41 : decode cX10_euclid 41 = .ok (.aload_n 0, 1) := by decide +kernel
theorem dX10_euclid_42 : decode cX10_euclid 42 = .ok (.iconst 0, 1) := by decide +kernel
theorem dX10_euclid_43 : decode cX10_euclid 43 = .ok (.sipush 9999, 3) := by decide +kernel
theorem dX10_euclid_46 : decode cX10_euclid 46 = .ok (.invokevirtual 87, 3) := by decide +kernel
theorem dX10_euclid_49 : decode cX10_euclid 49 = .ok (.putfield 152, 3) := by decide +kernel
theorem dX10_euclid_52 : decode cX10_euclid 52 = .ok (.aload_n 0, 1) := by decide +kernel
theorem dX10_euclid_53 : decode cX10_euclid 53 = .ok (.getfield 25, 3) := by decide +kernel
theorem dX10_euclid_56 : decode cX10_euclid 56 = .ok (.istore_n 3, 1) := by decide +kernel
theorem dX10_euclid_57 : decode cX10_euclid 57 = .ok (.aload_n 0, 1) := by decide +kernel
theorem dX10_euclid_58 : decode cX10_euclid 58 = .ok (.bipush 44, 2) := by decide +kernel
theorem dX10_euclid_60 : decode cX10_euclid 60 = .ok (.invokevirtual 131, 3) := by decide +kernel
theorem dX10_euclid_63 : decode cX10_euclid 63 = .ok (.aload_n 2, 1) := by decide +kernel
theorem dX10_euclid_64 : decode cX10_euclid 64 = .ok (.aload_n 0, 1) := by decide +kernel
theorem dX10_euclid_65 : decode cX10_euclid 65 = .ok (.iconst 1, 1) := by decide +kernel
theorem dX10_euclid_66 : decode cX10_euclid 66 = .ok (.bipush 32, 2) := by decide +kernel
theorem dX10_euclid_68 : decode cX10_euclid 68 = .ok (.invokevirtual 87, 3) := by decide +kernel
theorem dX10_euclid_71 : decode cX10_euclid 71 = .ok (.putfield 145, 3) := by decide +kernel
theorem dX10_euclid_74 : decode cX10_euclid 74 = .ok (.aload_n 2, 1) := by decide +kernel
theorem dX10_euclid_75 : decode cX10_euclid 75 = .ok (.getfield 152, 3) := by decide +kernel
theorem dX10_euclid_78 : decode cX10_euclid 78 = .ok (.aload_n 2, 1) := by decide +kernel
theorem dX10_euclid_79 : decode cX10_euclid 79 = .ok (.getfield 145, 3) := by decide +kernel
theorem dX10_euclid_82 : decode cX10_euclid 82 = .ok (.if_icmp .le 12, 3) := by decide +kernel
theorem dX10_euclid_85 : decode cX10_euclid 85 = .ok (.aload_n 0, 1) := by decide +kernel
theorem dX10_euclid_86 : decode cX10_euclid 86 = .ok (.getfield 28, 3) := by decide +kernel
theorem dX10_euclid_89 : decode cX10_euclid 89 = .ok (.iconst 3, 1) := by decide +kernel
theorem dX10_euclid_90 : decode cX10_euclid 90 = .ok (.iload_n 3, 1) := by decide +kernel
theorem dX10_euclid_91 : decode cX10_euclid 91 = .ok (.invokevirtual 32, 3) := by decide +kernel
theorem dX10_euclid_94 : decode cX10_euclid 94 = .ok (.aload_n 0, 1) := by decide +kernel
theorem dX10_euclid_95 : decode cX10_euclid 95 = .ok (.invokevirtual 42, 3) := by decide +kernel
theorem dX10_euclid_98 : decode cX10_euclid 98 = .ok (.aload_n 0, 1) := by decide +kernel
theorem dX10_euclid_99 : decode cX10_euclid 99 = .ok (.getfield 28, 3) := by decide +kernel
theorem dX10_euclid_102 : decode cX10_euclid 102 = .ok (.getfield 57, 3) := by decide +kernel
theorem dX10_euclid_105 : decode cX10_euclid 105 = .ok (.ifCond .ne 33, 3) := by decide +kernel
theorem dX10_euclid_108 : decode cX10_euclid 108 = .ok (.aload_n 0, 1) := by decide +kernel
theorem dX10_euclid_109 : decode cX10_euclid 109 = .ok (.invokevirtual 45, 3) := by decide +kernel
theorem dX10_euclid_112 : decode cX10_euclid 112 = .ok (.bipush 44, 2) := by decide +kernel
theorem dX10_euclid_114 : decode cX10_euclid 114 = .ok (.if_icmp .ne 24, 3) := by decide +kernel
theorem dX10_euclid_117 : decode cX10_euclid 117 = .ok (.aload_n 0, 1) := by decide +kernel
theorem dX10_euclid_118 : decode cX10_euclid 118 = .ok (.dup, 1) := by decide +kernel
theorem dX10_euclid_119 : decode cX10_euclid 119 = .ok (.getfield 15, 3) := by decide +kernel
theorem dX10_euclid_122 : decode cX10_euclid 122 = .ok (.iconst 1, 1) := by decide +kernel
theorem dX10_euclid_123 : decode cX10_euclid 123 = .ok (.iadd, 1) := by decide +kernel
theorem dX10_euclid_124 : decode cX10_euclid 124 = .ok (.putfield 15, 3) := by decide +kernel
theorem dX10_euclid_127 : decode cX10_euclid 127 = .ok (.aload_n 2, 1) := by decide +kernel
theorem dX10_euclid_128 : decode cX10_euclid 128 = .ok (.aload_n 0, 1) := by decide +kernel
theorem dX10_euclid_129 : decode cX10_euclid 129 = .ok (.iconst 0, 1) := by decide +kernel
theorem dX10_euclid_130 : decode cX10_euclid 130 = .ok (.bipush 31, 2) := by decide +kernel
theorem dX10_euclid_132 : decode cX10_euclid 132 = .ok (.invokevirtual 87, 3) := by decide +kernel
theorem dX10_euclid_135 : decode cX10_euclid 135 = .ok (.putfield 155, 3) := by decide +kernel
theorem dX10_euclid_138 : decode cX10_euclid 138 = .ok (.aload_n 0, 1) := by decide +kernel
theorem dX10_euclid_139 : decode cX10_euclid 139 = .ok (.bipush 41, 2) := by decide +kernel
theorem dX10_euclid_141 : decode cX10_euclid 141 = .ok (.invokevirtual 131, 3) := by decide +kernel
theorem dX10_euclid_144 : decode cX10_euclid 144 = .ok (.aload_n 0, 1) := by decide +kernel
theorem dX10_euclid_145 : decode cX10_euclid 145 = .ok (.getfield 28, 3) := by decide +kernel
theorem dX10_euclid_148 : decode cX10_euclid 148 = .ok (.dup, 1) := by decide +kernel
theorem dX10_euclid_149 : decode cX10_euclid 149 = .ok (.getfield 135, 3) := by decide +kernel
theorem dX10_euclid_152 : decode cX10_euclid 152 = .ok (.iconst 1, 1) := by decide +kernel
theorem dX10_euclid_153 : decode cX10_euclid 153 = .ok (.isub, 1) := by decide +kernel
theorem dX10_euclid_154 : decode cX10_euclid 154 = .ok (.putfield 135, 3) := by decide +kernel
theorem dX10_euclid_157 : decode cX10_euclid 157 = .ok (.aload_n 0, 1) := by decide +kernel
theorem dX10_euclid_158 : decode cX10_euclid 158 = .ok (.getfield 28, 3) := by decide +kernel
theorem dX10_euclid_161 : decode cX10_euclid 161 = .ok (.getfield 57, 3) := by decide +kernel
theorem dX10_euclid_164 : decode cX10_euclid 164 = .ok (.ifCond .ne 18, 3) := by decide +kernel
theorem dX10_euclid_167 : decode cX10_euclid 167 = .ok (.aload_n 0, 1) := by decide +kernel
theorem dX10_euclid_168 : decode cX10_euclid 168 = .ok (.getfield 9, 3) := by decide +kernel
theorem dX10_euclid_171 : decode cX10_euclid 171 = .ok (.aload_n 2, 1) := by decide +kernel
theorem dX10_euclid_172 : decode cX10_euclid 172 = .ok (.iload_n 1, 1) := by decide +kernel
theorem dX10_euclid_173 : decode cX10_euclid 173 = .ok (.invokevirtual 127, 3) := by decide +kernel
theorem dX10_euclid_176 : decode cX10_euclid 176 = .ok (.invokevirtual 60, 3) := by decide +kernel
theorem dX10_euclid_179 : decode cX10_euclid 179 = .ok (.goto 4, 3) := by decide +kernel
theorem dX10_euclid_182 : decode cX10_euclid 182 = .ok (.iconst 0, 1) := by decide +kernel
theorem dX10_euclid_183 : decode cX10_euclid 183 = .ok (.ireturn, 1) := by decide +kernel
theorem dX10_number_0 : decode cX10_number 0 = .ok (.aload_n 0, 1) := by decide +kernel
theorem dX10_number_1 : decode cX10_number 1 = .ok (.invokevirtual 42, 3) := by decide +kernel
theorem dX10_number_4 : decode cX10_number 4 = .ok (.aload_n 0, 1) := by decide +kernel
theorem dX10_number_5 : decode cX10_number 5 = .ok (.iconst 4, 1) := by decide +kernel
theorem dX10_number_6 : decode cX10_number 6 = .ok (.invokevirtual 118, 3) := by decide +kernel
theorem dX10_number_9 : decode cX10_number 9 = .ok (.istore_n 3, 1) := by decide +kernel
theorem dX10_number_10 : decode cX10_number 10 = .ok (.iload_n 3, 1) := by decide +kernel
theorem dX10_number_11 : decode cX10_number 11 = .ok (.iconst (-1), 1) := by decide +kernel
theorem dX10_number_12 : decode cX10_number 12 = .ok (.if_icmp .ne 18, 3) := by decide +kernel
theorem dX10_number_15 : decode cX10_number 15 = .ok (.aload_n 0, 1) := by decide +kernel
theorem dX10_number_16 : decode cX10_number 16 = .ok (.getfield 28, 3) := by decide +kernel
theorem dX10_number_19 : decode cX10_number 19 = .ok (.iconst 1, 1) := by decide +kernel
theorem dX10_number_20 : decode cX10_number 20 = .ok (.aload_n 0, 1) := by decide +kernel
theorem dX10_number_21 : decode cX10_number 21 = .ok (.getfield 15, 3) := by decide +kernel
theorem dX10_number_24 : decode cX10_number 24 = .ok (.invokevirtual 32, 3) := by decide +kernel
theorem dX10_number_27 : decode cX10_number 27 = .ok (.goto 25, 3) := by decide +kernel
theorem dX10_number_30 : decode cX10_number 30 = .ok (.iload_n 3, 1) := by decide +kernel
theorem dX10_number_31 : decode cX10_number 31 = .ok (.iload_n 1, 1) := by decide +kernel
theorem dX10_number_32 : decode cX10_number 32 = .ok (.if_icmp .lt 8, 3) := by decide +kernel
theorem dX10_number_35 : decode cX10_number 35 = .ok (.iload_n 3, 1) := by decide +kernel
theorem dX10_number_36 : decode cX10_number 36 = .ok (.iload_n 2, 1) := by decide +kernel
theorem dX10_number_37 : decode cX10_number 37 = .ok (.if_icmp .le 15, 3) := by decide +kernel
theorem dX10_number_40 : decode cX10_number 40 = .ok (.aload_n 0, 1) := by decide +kernel
theorem dX10_number_41 : decode cX10_number 41 = .ok (.getfield 28, 3) := by decide +kernel
theorem dX10_number_44 : decode cX10_number 44 = .ok (.iconst 3, 1) := by decide +kernel
theorem dX10_number_45 : decode cX10_number 45 = .ok (.aload_n 0, 1) := by decide +kernel
theorem dX10_number_46 : decode cX10_number 46 = .ok (.getfield 25, 3) := by decide +kernel
theorem dX10_number_49 : decode cX10_number 49 = .ok (.invokevirtual 32, 3) := by decide +kernel
theorem dX10_number_52 : decode cX10_number 52 = .ok (.iload_n 3, 1) := by decide +kernel
theorem dX10_number_53 : decode cX10_number 53 = .ok (.ireturn, 1) := by decide +kernel
theorem dX10_digits_0 : decode cX10_digits 0 = .ok (.aload_n 0, 1) := by decide +kernel
theorem dX10_digits_1 : decode cX10_digits 1 = .ok (.getfield 28, 3) := by decide +kernel
theorem dX10_digits_4 : decode cX10_digits 4 = .ok (.getfield 38, 3) := by decide +kernel
theorem dX10_digits_7 : decode cX10_digits 7 = .ok (.astore_n 2, 1) := by decide +kernel
theorem dX10_digits_8 : decode cX10_digits 8 = .ok (.aload_n 0, 1) := by decide +kernel
theorem dX10_digits_9 : decode cX10_digits 9 = .ok (.aload_n 0, 1) := by decide +kernel
theorem dX10_digits_10 : decode cX10_digits 10 = .ok (.getfield 15, 3) := by decide +kernel
theorem dX10_digits_13 : decode cX10_digits 13 = .ok (.putfield 25, 3) := by decide +kernel
theorem dX10_digits_16 : decode cX10_digits 16 = .ok (.iconst 0, 1) := by decide +kernel
theorem dX10_digits_17 : decode cX10_digits 17 = .ok (.istore_n 3, 1) := by decide +kernel
theorem dX10_digits_18 : decode cX10_digits 18 = .ok (.aload_n 0, 1) := by decide +kernel
theorem dX10_digits_19 : decode cX10_digits 19 = .ok (.getfield 15, 3) := by decide +kernel
theorem dX10_digits_22 : decode cX10_digits 22 = .ok (.aload_n 0, 1) := by decide +kernel
theorem dX10_digits_23 : decode cX10_digits 23 = .ok (.getfield 19, 3) := by decide +kernel
theorem dX10_digits_26 : decode cX10_digits 26 = .ok (.if_icmp .ge 66, 3) := by decide +kernel
theorem dX10_digits_29 : decode cX10_digits 29 = .ok (.aload_n 0, 1) := by decide +kernel
theorem dX10_digits_30 : decode cX10_digits 30 = .ok (.getfield 15, 3) := by decide +kernel
theorem dX10_digits_33 : decode cX10_digits 33 = .ok (.aload_n 0, 1) := by decide +kernel
theorem dX10_digits_34 : decode cX10_digits 34 = .ok (.getfield 25, 3) := by decide +kernel
theorem dX10_digits_37 : decode cX10_digits 37 = .ok (.isub, 1) := by decide +kernel
theorem dX10_digits_38 : decode cX10_digits 38 = .ok (.iload_n 1, 1) := by decide +kernel
theorem dX10_digits_39 : decode cX10_digits 39 = .ok (.if_icmp .ge 53, 3) := by decide +kernel
theorem dX10_digits_42 : decode cX10_digits 42 = .ok (.aload_n 2, 1) := by decide +kernel
theorem dX10_digits_43 : decode cX10_digits 43 = .ok (.aload_n 0, 1) := by decide +kernel
theorem dX10_digits_44 : decode cX10_digits 44 = .ok (.getfield 15, 3) := by decide +kernel
theorem dX10_digits_47 : decode cX10_digits 47 = .ok (.baload, 1) := by decide +kernel
theorem dX10_digits_48 : decode cX10_digits 48 = .ok (.bipush 48, 2) := by decide +kernel
theorem dX10_digits_50 : decode cX10_digits 50 = .ok (.if_icmp .lt 42, 3) := by decide +kernel
theorem dX10_digits_53 : decode cX10_digits 53 = .ok (.aload_n 2, 1) := by decide +kernel
theorem dX10_digits_54 : decode cX10_digits 54 = .ok (.aload_n 0, 1) := by decide +kernel
theorem dX10_digits_55 : decode cX10_digits 55 = .ok (.getfield 15, 3) := by decide +kernel
theorem dX10_digits_58 : decode cX10_digits 58 = .ok (.baload, 1) := by decide +kernel
theorem dX10_digits_59 : decode cX10_digits 59 = .ok (.bipush 57, 2) := by decide +kernel
theorem dX10_digits_61 : decode cX10_digits 61 = .ok (.if_icmp .gt 31, 3) := by decide +kernel
theorem dX10_digits_64 : decode cX10_digits 64 = .ok (.iload_n 3, 1) := by decide +kernel
theorem dX10_digits_65 : decode cX10_digits 65 = .ok (.bipush 10, 2) := by decide +kernel
theorem dX10_digits_67 : decode cX10_digits 67 = .ok (.imul, 1) := by decide +kernel
theorem dX10_digits_68 : decode cX10_digits 68 = .ok (.aload_n 2, 1) := by decide +kernel
theorem dX10_digits_69 : decode cX10_digits 69 = .ok (.aload_n 0, 1) := by decide +kernel
theorem dX10_digits_70 : decode cX10_digits 70 = .ok (.getfield 15, 3) := by decide +kernel
theorem dX10_digits_73 : decode cX10_digits 73 = .ok (.baload, 1) := by decide +kernel
theorem dX10_digits_74 : decode cX10_digits 74 = .ok (.iadd, 1) := by decide +kernel
theorem dX10_digits_75 : decode cX10_digits 75 = .ok (.bipush 48, 2) := by decide +kernel
theorem dX10_digits_77 : decode cX10_digits 77 = .ok (.isub, 1) := by decide +kernel
theorem dX10_digits_78 : decode cX10_digits 78 = .ok (.istore_n 3, 1) := by decide +kernel
theorem dX10_digits_79 : decode cX10_digits 79 = .ok (.aload_n 0, 1) := by decide +kernel
theorem dX10_digits_80 : decode cX10_digits 80 = .ok (.dup, 1) := by decide +kernel
theorem dX10_digits_81 : decode cX10_digits 81 = .ok (.getfield 15, 3) := by decide +kernel
theorem dX10_digits_84 : decode cX10_digits 84 = .ok (.iconst 1, 1) := by decide +kernel
theorem dX10_digits_85 : decode cX10_digits 85 = .ok (.iadd, 1) := by decide +kernel
theorem dX10_digits_86 : decode cX10_digits 86 = .ok (.putfield 15, 3) := by decide +kernel
theorem dX10_digits_89 : decode cX10_digits 89 = .ok (.goto (-71), 3) := by decide +kernel
theorem dX10_digits_92 : decode cX10_digits 92 = .ok (.aload_n 0, 1) := by decide +kernel
theorem dX10_digits_93 : decode cX10_digits 93 = .ok (.getfield 15, 3) := by decide +kernel
theorem dX10_digits_96 : decode cX10_digits 96 = .ok (.aload_n 0, 1) := by decide +kernel
theorem dX10_digits_97 : decode cX10_digits 97 = .ok (.getfield 19, 3) := by decide +kernel
theorem dX10_digits_100 : decode cX10_digits 100 = .ok (.if_icmp .ge 29, 3) := by decide +kernel
theorem dX10_digits_103 : decode cX10_digits 103 = .ok (.aload_n 2, 1) := by decide +kernel
theorem dX10_digits_104 : decode cX10_digits 104 = .ok (.aload_n 0, 1) := by decide +kernel
theorem dX10_digits_105 : decode cX10_digits 105 = .ok (.getfield 15, 3) := by decide +kernel
theorem dX10_digits_108 : decode cX10_digits 108 = .ok (.baload, 1) := by decide +kernel
theorem dX10_digits_109 : decode cX10_digits 109 = .ok (.bipush 48, 2) := by decide +kernel
theorem dX10_digits_111 : decode cX10_digits 111 = .ok (.if_icmp .lt 18, 3) := by decide +kernel
theorem dX10_digits_114 : decode cX10_digits 114 = .ok (.aload_n 2, 1) := by decide +kernel
theorem dX10_digits_115 : decode cX10_digits 115 = .ok (.aload_n 0, 1) := by decide +kernel
theorem dX10_digits_116 : decode cX10_digits 116 = .ok (.getfield 15, 3) := by decide +kernel
theorem dX10_digits_119 : decode cX10_digits 119 = .ok (.baload, 1) := by decide +kernel
theorem dX10_digits_120 : decode cX10_digits 120 = .ok (.bipush 57, 2) := by decide +kernel
theorem dX10_digits_122 : decode cX10_digits 122 = .ok (.if_icmp .gt 7, 3) := by decide +kernel
theorem dX10_digits_125 : decode cX10_digits 125 = .ok (.iconst 1, 1) := by decide +kernel
theorem dX10_digits_126 : decode cX10_digits 126 = .ok (.goto 4, 3) := by decide +kernel
theorem dX10_digits_129 : decode cX10_digits 129 = .ok (.iconst 0, 1) := by decide +kernel
theorem dX10_digits_130 : decode cX10_digits 130 = .ok (.istore 4, 2) := by decide +kernel
theorem dX10_digits_132 : decode cX10_digits 132 = .ok (.iload 4, 2) := by decide +kernel
theorem dX10_digits_134 : decode cX10_digits 134 = .ok (.ifCond .ne 14, 3) := by decide +kernel
theorem dX10_digits_137 : decode cX10_digits 137 = .ok (.aload_n 0, 1) := by decide +kernel
theorem dX10_digits_138 : decode cX10_digits 138 = .ok (.getfield 15, 3) := by decide +kernel
theorem dX10_digits_141 : decode cX10_digits 141 = .ok (.aload_n 0, 1) := by decide +kernel
theorem dX10_digits_142 : decode cX10_digits 142 = .ok (.getfield 25, 3) := by decide +kernel
theorem dX10_digits_145 : decode cX10_digits 145 = .ok (.if_icmp .ne 7, 3) := by decide +kernel
theorem dX10_digits_148 : decode cX10_digits 148 = .ok (.iconst (-1), 1) := by decide +kernel
theorem dX10_digits_149 : decode cX10_digits 149 = .ok (.goto 4, 3) := by decide +kernel
theorem dX10_digits_152 : decode cX10_digits 152 = .ok (.iload_n 3, 1) := by decide +kernel
theorem dX10_digits_153 : decode cX10_digits 153 = .ok (.ireturn, 1) := by decide +kernel
theorem dX11_feed_16 : decode cX11_feed 16 = .ok (.iconst 0, 1) := by decide +kernel
theorem dX11_feed_17 : decode cX11_feed 17 = .ok (.ireturn, 1) := by decide +kernel
theorem dX11_read_25 : decode cX11_read 25 = .ok (.aload_n 0, 1) := by decide +kernel
theorem dX11_read_26 : decode cX11_read 26 = .ok (.aload_n 0, 1) := by decide +kernel
theorem dX11_read_27 : decode cX11_read 27 = .ok (.getfield 55, 3) := by decide +kernel
theorem dX11_read_30 : decode cX11_read 30 = .ok (.invokevirtual 112, 3) := by decide +kernel
theorem dX11_read_33 : decode cX11_read 33 = .ok (.invokevirtual 116, 3) := by decide +kernel
theorem dX11_read_36 : decode cX11_read 36 = .ok (.ifCond .eq 17, 3) := by decide +kernel
theorem dX11_read_39 : decode cX11_read 39 = .ok (.aload_n 0, 1) := by decide +kernel
theorem dX11_read_40 : decode cX11_read 40 = .ok (.getfield 55, 3) := by decide +kernel
theorem dX11_read_43 : decode cX11_read 43 = .ok (.invokevirtual 108, 3) := by decide +kernel
theorem dX11_read_46 : decode cX11_read 46 = .ok (.ifCond .eq 7, 3) := by decide +kernel
theorem dX11_read_49 : decode cX11_read 49 = .ok (.iconst 1, 1) := by decide +kernel
theorem dX11_read_50 : decode cX11_read 50 = .ok (.goto 4, 3) := by decide +kernel
theorem dX11_read_53 : decode cX11_read 53 = .ok (.iconst 0, 1) := by decide +kernel
theorem dX11_read_54 : decode cX11_read 54 = .ok (.istore_n 1, 1) := by decide +kernel
theorem dX11_read_55 : decode cX11_read 55 = .ok (.iinc 2 1, 3) := by decide +kernel
theorem dX11_read_58 : decode cX11_read 58 = .ok (.goto (-44), 3) := by decide +kernel
theorem dX11_read_71 : decode cX11_read 71 = .ok (.aload_n 0, 1) := by decide +kernel
theorem dX11_read_72 : decode cX11_read 72 = .ok (.getfield 10, 3) := by decide +kernel
theorem dX11_read_75 : decode cX11_read 75 = .ok (.getfield 120, 3) := by decide +kernel
theorem dX11_read_78 : decode cX11_read 78 = .ok (.goto 10, 3) := by decide +kernel
theorem dX11_read_105 : decode cX11_read 105 = .ok (.bipush 11, 2) := by decide +kernel
theorem dX11_read_107 : decode cX11_read 107 = .ok (.istore_n 2, 1) := by decide +kernel
theorem dX11_hang_31 : decode cX11_hang 31 = .ok (.aload_n 0, 1) := by decide +kernel
theorem dX11_hang_32 : decode cX11_hang 32 = .ok (.getfield 19, 3) := by decide +kernel
theorem dX11_hang_35 : decode cX11_hang 35 = .ok (.aload_n 2, 1) := by decide +kernel
theorem dX11_hang_36 : decode cX11_hang 36 = .ok (.invokevirtual 142, 3) := by decide +kernel
theorem dX11_hang_39 : decode cX11_hang 39 = .ok (.goto 4, 3) := by decide +kernel
theorem dX11_hang_64 : decode cX11_hang 64 = .ok (.aload_n 0, 1) := by decide +kernel
theorem dX11_hang_65 : decode cX11_hang 65 = .ok (.getfield 19, 3) := by decide +kernel
theorem dX11_hang_68 : decode cX11_hang 68 = .ok (.getfield 123, 3) := by decide +kernel
theorem dX11_hang_78 : decode cX11_hang 78 = .ok (.aload_n 0, 1) := by decide +kernel
theorem dX11_hang_79 : decode cX11_hang 79 = .ok (.iload_n 1, 1) := by decide +kernel
theorem dX11_hang_80 : decode cX11_hang 80 = .ok (.aload_n 3, 1) := by decide +kernel
theorem dX11_hang_81 : decode cX11_hang 81 = .ok (.invokevirtual 146, 3) := by decide +kernel
theorem dX11_told_9 : decode cX11_told 9 = .ok (.iload_n 1, 1) := by decide +kernel
theorem dX11_told_10 : decode cX11_told 10 = .ok (.tableswitch 41 0 2 #[26, 31, 36], 26) := by decide +kernel
theorem dX11_told_36 : decode cX11_told 36 = .ok (.aload_n 0, 1) := by decide +kernel
theorem dX11_told_37 : decode cX11_told 37 = .ok (.getfield 89, 3) := by decide +kernel
theorem dX11_told_40 : decode cX11_told 40 = .ok (.ireturn, 1) := by decide +kernel
theorem dX11_told_41 : decode cX11_told 41 = .ok (.aload_n 0, 1) := by decide +kernel
theorem dX11_told_42 : decode cX11_told 42 = .ok (.getfield 92, 3) := by decide +kernel
theorem dX11_told_45 : decode cX11_told 45 = .ok (.ireturn, 1) := by decide +kernel
theorem dX11_told_46 : decode cX11_told 46 = .ok (.aload_n 0, 1) := by decide +kernel
theorem dX11_told_47 : decode cX11_told 47 = .ok (.getfield 95, 3) := by decide +kernel
theorem dX11_told_50 : decode cX11_told 50 = .ok (.ireturn, 1) := by decide +kernel
theorem dX11_told_51 : decode cX11_told 51 = .ok (.iconst (-1), 1) := by decide +kernel
theorem dX11_told_52 : decode cX11_told 52 = .ok (.ireturn, 1) := by decide +kernel
theorem dX11_bound_18 : decode cX11_bound 18 = .ok (.aload_n 0, 1) := by decide +kernel
theorem dX11_bound_19 : decode cX11_bound 19 = .ok (.getfield 61, 3) := by decide +kernel
theorem dX11_bound_22 : decode cX11_bound 22 = .ok (.iload_n 1, 1) := by decide +kernel
theorem dX11_bound_23 : decode cX11_bound 23 = .ok (.aaload, 1) := by decide +kernel
theorem dX11_bound_24 : decode cX11_bound 24 = .ok (.astore_n 3, 1) := by decide +kernel
theorem dX11_bound_25 : decode cX11_bound 25 = .ok (.iload_n 2, 1) := by decide +kernel
theorem dX11_bound_26 : decode cX11_bound 26 = .ok (.tableswitch 63 0 4 #[34, 40, 46, 52, 58], 34) := by decide +kernel
theorem dX11_bound_60 : decode cX11_bound 60 = .ok (.aload_n 3, 1) := by decide +kernel
theorem dX11_bound_61 : decode cX11_bound 61 = .ok (.getfield 150, 3) := by decide +kernel
theorem dX11_bound_64 : decode cX11_bound 64 = .ok (.l2i, 1) := by decide +kernel
theorem dX11_bound_65 : decode cX11_bound 65 = .ok (.ireturn, 1) := by decide +kernel
theorem dX11_bound_66 : decode cX11_bound 66 = .ok (.aload_n 3, 1) := by decide +kernel
theorem dX11_bound_67 : decode cX11_bound 67 = .ok (.getfield 154, 3) := by decide +kernel
theorem dX11_bound_70 : decode cX11_bound 70 = .ok (.l2i, 1) := by decide +kernel
theorem dX11_bound_71 : decode cX11_bound 71 = .ok (.ireturn, 1) := by decide +kernel
theorem dX11_bound_72 : decode cX11_bound 72 = .ok (.aload_n 3, 1) := by decide +kernel
theorem dX11_bound_73 : decode cX11_bound 73 = .ok (.getfield 157, 3) := by decide +kernel
theorem dX11_bound_76 : decode cX11_bound 76 = .ok (.l2i, 1) := by decide +kernel
theorem dX11_bound_77 : decode cX11_bound 77 = .ok (.ireturn, 1) := by decide +kernel
theorem dX11_bound_78 : decode cX11_bound 78 = .ok (.aload_n 3, 1) := by decide +kernel
theorem dX11_bound_79 : decode cX11_bound 79 = .ok (.getfield 160, 3) := by decide +kernel
theorem dX11_bound_82 : decode cX11_bound 82 = .ok (.l2i, 1) := by decide +kernel
theorem dX11_bound_83 : decode cX11_bound 83 = .ok (.ireturn, 1) := by decide +kernel
theorem dX11_bound_84 : decode cX11_bound 84 = .ok (.aload_n 3, 1) := by decide +kernel
theorem dX11_bound_85 : decode cX11_bound 85 = .ok (.getfield 163, 3) := by decide +kernel
theorem dX11_bound_88 : decode cX11_bound 88 = .ok (.ireturn, 1) := by decide +kernel
theorem dX11_bound_89 : decode cX11_bound 89 = .ok (.iconst (-1), 1) := by decide +kernel
theorem dX11_bound_90 : decode cX11_bound 90 = .ok (.ireturn, 1) := by decide +kernel
theorem dX11_ask_16 : decode cX11_ask 16 = .ok (.iload_n 2, 1) := by decide +kernel
theorem dX11_ask_17 : decode cX11_ask 17 = .ok (.sipush (-1000), 3) := by decide +kernel
theorem dX11_ask_20 : decode cX11_ask 20 = .ok (.if_icmp .lt 9, 3) := by decide +kernel
theorem dX11_ask_23 : decode cX11_ask 23 = .ok (.iload_n 2, 1) := by decide +kernel
theorem dX11_ask_24 : decode cX11_ask 24 = .ok (.ldc 166, 2) := by decide +kernel
theorem dX11_ask_26 : decode cX11_ask 26 = .ok (.if_icmp .le 5, 3) := by decide +kernel
theorem dX11_ask_31 : decode cX11_ask 31 = .ok (.aload_n 0, 1) := by decide +kernel
theorem dX11_ask_32 : decode cX11_ask 32 = .ok (.getfield 61, 3) := by decide +kernel
theorem dX11_ask_35 : decode cX11_ask 35 = .ok (.iload_n 1, 1) := by decide +kernel
theorem dX11_ask_36 : decode cX11_ask 36 = .ok (.aaload, 1) := by decide +kernel
theorem dX11_ask_37 : decode cX11_ask 37 = .ok (.astore_n 3, 1) := by decide +kernel
theorem dX11_ask_38 : decode cX11_ask 38 = .ok (.aload_n 0, 1) := by decide +kernel
theorem dX11_ask_39 : decode cX11_ask 39 = .ok (.getfield 26, 3) := by decide +kernel
theorem dX11_ask_42 : decode cX11_ask 42 = .ok (.aload_n 3, 1) := by decide +kernel
theorem dX11_ask_43 : decode cX11_ask 43 = .ok (.iload_n 2, 1) := by decide +kernel
theorem dX11_ask_44 : decode cX11_ask 44 = .ok (.i2l, 1) := by decide +kernel
theorem dX11_ask_45 : decode cX11_ask 45 = .ok (.invokevirtual 167, 3) := by decide +kernel
theorem dX11_ask_48 : decode cX11_ask 48 = .ok (.aload_n 0, 1) := by decide +kernel
theorem dX11_ask_49 : decode cX11_ask 49 = .ok (.getfield 33, 3) := by decide +kernel
theorem dX11_ask_52 : decode cX11_ask 52 = .ok (.iconst 0, 1) := by decide +kernel
theorem dX11_ask_53 : decode cX11_ask 53 = .ok (.putfield 171, 3) := by decide +kernel
theorem dX11_ask_56 : decode cX11_ask 56 = .ok (.aload_n 0, 1) := by decide +kernel
theorem dX11_ask_57 : decode cX11_ask 57 = .ok (.getfield 33, 3) := by decide +kernel
theorem dX11_ask_60 : decode cX11_ask 60 = .ok (.aload_n 0, 1) := by decide +kernel
theorem dX11_ask_61 : decode cX11_ask 61 = .ok (.getfield 26, 3) := by decide +kernel
theorem dX11_ask_64 : decode cX11_ask 64 = .ok (.getfield 174, 3) := by decide +kernel
theorem dX11_ask_67 : decode cX11_ask 67 = .ok (.aload_n 3, 1) := by decide +kernel
theorem dX11_ask_68 : decode cX11_ask 68 = .ok (.getfield 150, 3) := by decide +kernel
theorem dX11_ask_71 : decode cX11_ask 71 = .ok (.iload_n 1, 1) := by decide +kernel
theorem dX11_ask_72 : decode cX11_ask 72 = .ok (.iload_n 2, 1) := by decide +kernel
theorem dX11_ask_73 : decode cX11_ask 73 = .ok (.iconst 0, 1) := by decide +kernel
theorem dX11_ask_74 : decode cX11_ask 74 = .ok (.invokevirtual 178, 3) := by decide +kernel
theorem dX11_ask_77 : decode cX11_ask 77 = .ok (.aload_n 0, 1) := by decide +kernel
theorem dX11_ask_78 : decode cX11_ask 78 = .ok (.getfield 33, 3) := by decide +kernel
theorem dX11_ask_81 : decode cX11_ask 81 = .ok (.getfield 171, 3) := by decide +kernel
theorem dX11_ask_84 : decode cX11_ask 84 = .ok (.ireturn, 1) := by decide +kernel
theorem dX11_event_17 : decode cX11_event 17 = .ok (.iload_n 2, 1) := by decide +kernel
theorem dX11_event_18 : decode cX11_event 18 = .ok (.tableswitch 93 0 6 #[42, 42, 42, 42, 52, 62, 80], 42) := by decide +kernel
theorem dX11_event_60 : decode cX11_event 60 = .ok (.aload_n 0, 1) := by decide +kernel
theorem dX11_event_61 : decode cX11_event 61 = .ok (.getfield 33, 3) := by decide +kernel
theorem dX11_event_64 : decode cX11_event 64 = .ok (.iload_n 1, 1) := by decide +kernel
theorem dX11_event_65 : decode cX11_event 65 = .ok (.iload_n 2, 1) := by decide +kernel
theorem dX11_event_66 : decode cX11_event 66 = .ok (.invokevirtual 182, 3) := by decide +kernel
theorem dX11_event_69 : decode cX11_event 69 = .ok (.ireturn, 1) := by decide +kernel
theorem dX11_event_70 : decode cX11_event 70 = .ok (.aload_n 0, 1) := by decide +kernel
theorem dX11_event_71 : decode cX11_event 71 = .ok (.getfield 33, 3) := by decide +kernel
theorem dX11_event_74 : decode cX11_event 74 = .ok (.getfield 186, 3) := by decide +kernel
theorem dX11_event_77 : decode cX11_event 77 = .ok (.iload_n 1, 1) := by decide +kernel
theorem dX11_event_78 : decode cX11_event 78 = .ok (.iaload, 1) := by decide +kernel
theorem dX11_event_79 : decode cX11_event 79 = .ok (.ireturn, 1) := by decide +kernel
theorem dX11_event_80 : decode cX11_event 80 = .ok (.aload_n 0, 1) := by decide +kernel
theorem dX11_event_81 : decode cX11_event 81 = .ok (.getfield 33, 3) := by decide +kernel
theorem dX11_event_84 : decode cX11_event 84 = .ok (.getfield 190, 3) := by decide +kernel
theorem dX11_event_87 : decode cX11_event 87 = .ok (.iload_n 1, 1) := by decide +kernel
theorem dX11_event_88 : decode cX11_event 88 = .ok (.baload, 1) := by decide +kernel
theorem dX11_event_89 : decode cX11_event 89 = .ok (.ifCond .eq 7, 3) := by decide +kernel
theorem dX11_event_92 : decode cX11_event 92 = .ok (.iconst 1, 1) := by decide +kernel
theorem dX11_event_93 : decode cX11_event 93 = .ok (.goto 4, 3) := by decide +kernel
theorem dX11_event_96 : decode cX11_event 96 = .ok (.iconst 0, 1) := by decide +kernel
theorem dX11_event_97 : decode cX11_event 97 = .ok (.ireturn, 1) := by decide +kernel
theorem dX11_event_98 : decode cX11_event 98 = .ok (.aload_n 0, 1) := by decide +kernel
theorem dX11_event_99 : decode cX11_event 99 = .ok (.getfield 33, 3) := by decide +kernel
theorem dX11_event_102 : decode cX11_event 102 = .ok (.getfield 193, 3) := by decide +kernel
theorem dX11_event_105 : decode cX11_event 105 = .ok (.iload_n 1, 1) := by decide +kernel
theorem dX11_event_106 : decode cX11_event 106 = .ok (.laload, 1) := by decide +kernel
theorem dX11_event_107 : decode cX11_event 107 = .ok (.invokestatic 197, 3) := by decide +kernel
theorem dX11_event_110 : decode cX11_event 110 = .ok (.ireturn, 1) := by decide +kernel
theorem dX11_event_111 : decode cX11_event 111 = .ok (.iconst (-1), 1) := by decide +kernel
theorem dX11_event_112 : decode cX11_event 112 = .ok (.ireturn, 1) := by decide +kernel
theorem dX11_heard_17 : decode cX11_heard 17 = .ok (.iload_n 2, 1) := by decide +kernel
theorem dX11_heard_18 : decode cX11_heard 18 = .ok (.tableswitch 101 0 7 #[46, 56, 66, 66, 66, 66, 78, 88], 46) := by decide +kernel
theorem dX11_heard_64 : decode cX11_heard 64 = .ok (.aload_n 0, 1) := by decide +kernel
theorem dX11_heard_65 : decode cX11_heard 65 = .ok (.getfield 37, 3) := by decide +kernel
theorem dX11_heard_68 : decode cX11_heard 68 = .ok (.getfield 217, 3) := by decide +kernel
theorem dX11_heard_71 : decode cX11_heard 71 = .ok (.iload_n 1, 1) := by decide +kernel
theorem dX11_heard_72 : decode cX11_heard 72 = .ok (.iaload, 1) := by decide +kernel
theorem dX11_heard_73 : decode cX11_heard 73 = .ok (.ireturn, 1) := by decide +kernel
theorem dX11_heard_74 : decode cX11_heard 74 = .ok (.aload_n 0, 1) := by decide +kernel
theorem dX11_heard_75 : decode cX11_heard 75 = .ok (.getfield 37, 3) := by decide +kernel
theorem dX11_heard_78 : decode cX11_heard 78 = .ok (.getfield 220, 3) := by decide +kernel
theorem dX11_heard_81 : decode cX11_heard 81 = .ok (.iload_n 1, 1) := by decide +kernel
theorem dX11_heard_82 : decode cX11_heard 82 = .ok (.iaload, 1) := by decide +kernel
theorem dX11_heard_83 : decode cX11_heard 83 = .ok (.ireturn, 1) := by decide +kernel
theorem dX11_heard_84 : decode cX11_heard 84 = .ok (.aload_n 0, 1) := by decide +kernel
theorem dX11_heard_85 : decode cX11_heard 85 = .ok (.getfield 37, 3) := by decide +kernel
theorem dX11_heard_88 : decode cX11_heard 88 = .ok (.iload_n 1, 1) := by decide +kernel
theorem dX11_heard_89 : decode cX11_heard 89 = .ok (.iload_n 2, 1) := by decide +kernel
theorem dX11_heard_90 : decode cX11_heard 90 = .ok (.iconst 2, 1) := by decide +kernel
theorem dX11_heard_91 : decode cX11_heard 91 = .ok (.isub, 1) := by decide +kernel
theorem dX11_heard_92 : decode cX11_heard 92 = .ok (.invokevirtual 182, 3) := by decide +kernel
theorem dX11_heard_95 : decode cX11_heard 95 = .ok (.ireturn, 1) := by decide +kernel
theorem dX11_heard_96 : decode cX11_heard 96 = .ok (.aload_n 0, 1) := by decide +kernel
theorem dX11_heard_97 : decode cX11_heard 97 = .ok (.getfield 37, 3) := by decide +kernel
theorem dX11_heard_100 : decode cX11_heard 100 = .ok (.getfield 186, 3) := by decide +kernel
theorem dX11_heard_103 : decode cX11_heard 103 = .ok (.iload_n 1, 1) := by decide +kernel
theorem dX11_heard_104 : decode cX11_heard 104 = .ok (.iaload, 1) := by decide +kernel
theorem dX11_heard_105 : decode cX11_heard 105 = .ok (.ireturn, 1) := by decide +kernel
theorem dX11_heard_106 : decode cX11_heard 106 = .ok (.aload_n 0, 1) := by decide +kernel
theorem dX11_heard_107 : decode cX11_heard 107 = .ok (.getfield 37, 3) := by decide +kernel
theorem dX11_heard_110 : decode cX11_heard 110 = .ok (.getfield 193, 3) := by decide +kernel
theorem dX11_heard_113 : decode cX11_heard 113 = .ok (.iload_n 1, 1) := by decide +kernel
theorem dX11_heard_114 : decode cX11_heard 114 = .ok (.laload, 1) := by decide +kernel
theorem dX11_heard_115 : decode cX11_heard 115 = .ok (.invokestatic 197, 3) := by decide +kernel
theorem dX11_heard_118 : decode cX11_heard 118 = .ok (.ireturn, 1) := by decide +kernel
theorem dX11_heard_119 : decode cX11_heard 119 = .ok (.iconst (-1), 1) := by decide +kernel
theorem dX11_heard_120 : decode cX11_heard 120 = .ok (.ireturn, 1) := by decide +kernel
theorem dX11_finishReading_49 : decode cX11_finishReading 49 = .ok (.aload_n 0, 1) := by decide +kernel
theorem dX11_finishReading_50 : decode cX11_finishReading 50 = .ok (.aload_n 0, 1) := by decide +kernel
theorem dX11_finishReading_51 : decode cX11_finishReading 51 = .ok (.getfield 19, 3) := by decide +kernel
theorem dX11_finishReading_54 : decode cX11_finishReading 54 = .ok (.getfield 239, 3) := by decide +kernel
theorem dX11_finishReading_57 : decode cX11_finishReading 57 = .ok (.putfield 92, 3) := by decide +kernel
theorem dX11_takeLine_0 : decode cX11_takeLine 0 = .ok (.aload_n 1, 1) := by decide +kernel
theorem dX11_takeLine_1 : decode cX11_takeLine 1 = .ok (.ifnonnull 19, 3) := by decide +kernel
theorem dX11_takeLine_4 : decode cX11_takeLine 4 = .ok (.aload_n 0, 1) := by decide +kernel
theorem dX11_takeLine_5 : decode cX11_takeLine 5 = .ok (.getfield 10, 3) := by decide +kernel
theorem dX11_takeLine_8 : decode cX11_takeLine 8 = .ok (.getfield 120, 3) := by decide +kernel
theorem dX11_takeLine_11 : decode cX11_takeLine 11 = .ok (.ifCond .ne 7, 3) := by decide +kernel
theorem dX11_takeLine_14 : decode cX11_takeLine 14 = .ok (.iconst 1, 1) := by decide +kernel
theorem dX11_takeLine_15 : decode cX11_takeLine 15 = .ok (.goto 4, 3) := by decide +kernel
theorem dX11_takeLine_18 : decode cX11_takeLine 18 = .ok (.iconst 0, 1) := by decide +kernel
theorem dX11_takeLine_19 : decode cX11_takeLine 19 = .ok (.ireturn, 1) := by decide +kernel
theorem dX11_takeLine_20 : decode cX11_takeLine 20 = .ok (.aload_n 1, 1) := by decide +kernel
theorem dX11_takeLine_21 : decode cX11_takeLine 21 = .ok (.getfield 243, 3) := by decide +kernel
theorem dX11_takeLine_24 : decode cX11_takeLine 24 = .ok (.ifCond .ne 15, 3) := by decide +kernel
theorem dX11_takeLine_27 : decode cX11_takeLine 27 = .ok (.aload_n 1, 1) := by decide +kernel
theorem dX11_takeLine_28 : decode cX11_takeLine 28 = .ok (.aload_n 0, 1) := by decide +kernel
theorem dX11_takeLine_29 : decode cX11_takeLine 29 = .ok (.getfield 19, 3) := by decide +kernel
theorem dX11_takeLine_32 : decode cX11_takeLine 32 = .ok (.aload_n 1, 1) := by decide +kernel
theorem dX11_takeLine_33 : decode cX11_takeLine 33 = .ok (.invokevirtual 142, 3) := by decide +kernel
theorem dX11_takeLine_36 : decode cX11_takeLine 36 = .ok (.putfield 248, 3) := by decide +kernel
theorem dX11_takeLine_39 : decode cX11_takeLine 39 = .ok (.aload_n 0, 1) := by decide +kernel
theorem dX11_takeLine_40 : decode cX11_takeLine 40 = .ok (.getfield 19, 3) := by decide +kernel
theorem dX11_takeLine_43 : decode cX11_takeLine 43 = .ok (.getfield 123, 3) := by decide +kernel
theorem dX11_takeLine_46 : decode cX11_takeLine 46 = .ok (.ifCond .eq 5, 3) := by decide +kernel
theorem dX11_takeLine_49 : decode cX11_takeLine 49 = .ok (.iconst 0, 1) := by decide +kernel
theorem dX11_takeLine_50 : decode cX11_takeLine 50 = .ok (.ireturn, 1) := by decide +kernel
theorem dX11_takeLine_51 : decode cX11_takeLine 51 = .ok (.iconst 0, 1) := by decide +kernel
theorem dX11_takeLine_52 : decode cX11_takeLine 52 = .ok (.istore_n 2, 1) := by decide +kernel
theorem dX11_takeLine_53 : decode cX11_takeLine 53 = .ok (.iload_n 2, 1) := by decide +kernel
theorem dX11_takeLine_54 : decode cX11_takeLine 54 = .ok (.aload_n 0, 1) := by decide +kernel
theorem dX11_takeLine_55 : decode cX11_takeLine 55 = .ok (.getfield 47, 3) := by decide +kernel
theorem dX11_takeLine_58 : decode cX11_takeLine 58 = .ok (.invokevirtual 124, 3) := by decide +kernel
theorem dX11_takeLine_61 : decode cX11_takeLine 61 = .ok (.if_icmp .ge 43, 3) := by decide +kernel
theorem dX11_takeLine_64 : decode cX11_takeLine 64 = .ok (.aload_n 0, 1) := by decide +kernel
theorem dX11_takeLine_65 : decode cX11_takeLine 65 = .ok (.getfield 47, 3) := by decide +kernel
theorem dX11_takeLine_68 : decode cX11_takeLine 68 = .ok (.iload_n 2, 1) := by decide +kernel
theorem dX11_takeLine_69 : decode cX11_takeLine 69 = .ok (.invokevirtual 252, 3) := by decide +kernel
theorem dX11_takeLine_72 : decode cX11_takeLine 72 = .ok (.checkcast 244, 3) := by decide +kernel
theorem dX11_takeLine_75 : decode cX11_takeLine 75 = .ok (.getfield 256, 3) := by decide +kernel
theorem dX11_takeLine_78 : decode cX11_takeLine 78 = .ok (.aload_n 1, 1) := by decide +kernel
theorem dX11_takeLine_79 : decode cX11_takeLine 79 = .ok (.getfield 256, 3) := by decide +kernel
theorem dX11_takeLine_82 : decode cX11_takeLine 82 = .ok (.lcmp, 1) := by decide +kernel
theorem dX11_takeLine_83 : decode cX11_takeLine 83 = .ok (.ifCond .ne 15, 3) := by decide +kernel
theorem dX11_takeLine_86 : decode cX11_takeLine 86 = .ok (.aload_n 0, 1) := by decide +kernel
theorem dX11_takeLine_87 : decode cX11_takeLine 87 = .ok (.getfield 47, 3) := by decide +kernel
theorem dX11_takeLine_90 : decode cX11_takeLine 90 = .ok (.iload_n 2, 1) := by decide +kernel
theorem dX11_takeLine_91 : decode cX11_takeLine 91 = .ok (.aload_n 1, 1) := by decide +kernel
theorem dX11_takeLine_92 : decode cX11_takeLine 92 = .ok (.invokevirtual 259, 3) := by decide +kernel
theorem dX11_takeLine_95 : decode cX11_takeLine 95 = .ok (.pop, 1) := by decide +kernel
theorem dX11_takeLine_96 : decode cX11_takeLine 96 = .ok (.iconst 1, 1) := by decide +kernel
theorem dX11_takeLine_97 : decode cX11_takeLine 97 = .ok (.ireturn, 1) := by decide +kernel
theorem dX11_takeLine_98 : decode cX11_takeLine 98 = .ok (.iinc 2 1, 3) := by decide +kernel
theorem dX11_takeLine_101 : decode cX11_takeLine 101 = .ok (.goto (-48), 3) := by decide +kernel
theorem dX11_takeLine_104 : decode cX11_takeLine 104 = .ok (.aload_n 0, 1) := by decide +kernel
theorem dX11_takeLine_105 : decode cX11_takeLine 105 = .ok (.getfield 47, 3) := by decide +kernel
theorem dX11_takeLine_108 : decode cX11_takeLine 108 = .ok (.aload_n 1, 1) := by decide +kernel
theorem dX11_takeLine_109 : decode cX11_takeLine 109 = .ok (.invokevirtual 263, 3) := by decide +kernel
theorem dX11_takeLine_112 : decode cX11_takeLine 112 = .ok (.pop, 1) := by decide +kernel
theorem dX11_takeLine_113 : decode cX11_takeLine 113 = .ok (.iconst 1, 1) := by decide +kernel
theorem dX11_takeLine_114 : decode cX11_takeLine 114 = .ok (.ireturn, 1) := by decide +kernel
theorem dX11_copyDefinitions_14 : decode cX11_copyDefinitions 14 = .ok (.aload_n 1, 1) := by decide +kernel
theorem dX11_copyDefinitions_15 : decode cX11_copyDefinitions 15 = .ok (.aload_n 0, 1) := by decide +kernel
theorem dX11_copyDefinitions_16 : decode cX11_copyDefinitions 16 = .ok (.iload_n 2, 1) := by decide +kernel
theorem dX11_copyDefinitions_17 : decode cX11_copyDefinitions 17 = .ok (.invokevirtual 252, 3) := by decide +kernel
theorem dX11_copyDefinitions_20 : decode cX11_copyDefinitions 20 = .ok (.checkcast 244, 3) := by decide +kernel
theorem dX11_copyDefinitions_23 : decode cX11_copyDefinitions 23 = .ok (.invokevirtual 263, 3) := by decide +kernel
theorem dX11_copyDefinitions_26 : decode cX11_copyDefinitions 26 = .ok (.pop, 1) := by decide +kernel
theorem dX11_copyDefinitions_27 : decode cX11_copyDefinitions 27 = .ok (.iinc 2 1, 3) := by decide +kernel
theorem dX11_copyDefinitions_30 : decode cX11_copyDefinitions 30 = .ok (.goto (-24), 3) := by decide +kernel
theorem dX11_hearCycle_42 : decode cX11_hearCycle 42 = .ok (.aload_n 0, 1) := by decide +kernel
theorem dX11_hearCycle_43 : decode cX11_hearCycle 43 = .ok (.getfield 72, 3) := by decide +kernel
theorem dX11_hearCycle_46 : decode cX11_hearCycle 46 = .ok (.iload 7, 2) := by decide +kernel
theorem dX11_hearCycle_48 : decode cX11_hearCycle 48 = .ok (.baload, 1) := by decide +kernel
theorem dX11_hearCycle_49 : decode cX11_hearCycle 49 = .ok (.ifCond .ne 105, 3) := by decide +kernel
theorem dX11_hearCycle_52 : decode cX11_hearCycle 52 = .ok (.iload 5, 2) := by decide +kernel
theorem dX11_hearCycle_54 : decode cX11_hearCycle 54 = .ok (.ifCond .eq 16, 3) := by decide +kernel
theorem dX11_hearCycle_57 : decode cX11_hearCycle 57 = .ok (.aload_n 0, 1) := by decide +kernel
theorem dX11_hearCycle_58 : decode cX11_hearCycle 58 = .ok (.getfield 75, 3) := by decide +kernel
theorem dX11_hearCycle_61 : decode cX11_hearCycle 61 = .ok (.iload 7, 2) := by decide +kernel
theorem dX11_hearCycle_63 : decode cX11_hearCycle 63 = .ok (.baload, 1) := by decide +kernel
theorem dX11_hearCycle_64 : decode cX11_hearCycle 64 = .ok (.ifCond .ne 6, 3) := by decide +kernel
theorem dX11_hearCycle_67 : decode cX11_hearCycle 67 = .ok (.goto 87, 3) := by decide +kernel
theorem dX11_hearCycle_70 : decode cX11_hearCycle 70 = .ok (.aload_n 0, 1) := by decide +kernel
theorem dX11_hearCycle_71 : decode cX11_hearCycle 71 = .ok (.getfield 26, 3) := by decide +kernel
theorem dX11_hearCycle_74 : decode cX11_hearCycle 74 = .ok (.aload 8, 2) := by decide +kernel
theorem dX11_hearCycle_76 : decode cX11_hearCycle 76 = .ok (.iload_n 1, 1) := by decide +kernel
theorem dX11_hearCycle_77 : decode cX11_hearCycle 77 = .ok (.i2l, 1) := by decide +kernel
theorem dX11_hearCycle_78 : decode cX11_hearCycle 78 = .ok (.invokevirtual 167, 3) := by decide +kernel
theorem dX11_hearCycle_81 : decode cX11_hearCycle 81 = .ok (.aload_n 0, 1) := by decide +kernel
theorem dX11_hearCycle_82 : decode cX11_hearCycle 82 = .ok (.getfield 26, 3) := by decide +kernel
theorem dX11_hearCycle_85 : decode cX11_hearCycle 85 = .ok (.getfield 174, 3) := by decide +kernel
theorem dX11_hearCycle_88 : decode cX11_hearCycle 88 = .ok (.astore 9, 2) := by decide +kernel
theorem dX11_hearCycle_90 : decode cX11_hearCycle 90 = .ok (.aload 9, 2) := by decide +kernel
theorem dX11_hearCycle_92 : decode cX11_hearCycle 92 = .ok (.iconst 0, 1) := by decide +kernel
theorem dX11_hearCycle_93 : decode cX11_hearCycle 93 = .ok (.iload_n 2, 1) := by decide +kernel
theorem dX11_hearCycle_94 : decode cX11_hearCycle 94 = .ok (.i2l, 1) := by decide +kernel
theorem dX11_hearCycle_95 : decode cX11_hearCycle 95 = .ok (.aload 8, 2) := by decide +kernel
theorem dX11_hearCycle_97 : decode cX11_hearCycle 97 = .ok (.getfield 150, 3) := by decide +kernel
theorem dX11_hearCycle_100 : decode cX11_hearCycle 100 = .ok (.lmul, 1) := by decide +kernel
theorem dX11_hearCycle_101 : decode cX11_hearCycle 101 = .ok (.ldc2_w 273, 3) := by decide +kernel
theorem dX11_hearCycle_104 : decode cX11_hearCycle 104 = .ok (.invokestatic 275, 3) := by decide +kernel
theorem dX11_hearCycle_107 : decode cX11_hearCycle 107 = .ok (.iload_n 3, 1) := by decide +kernel
theorem dX11_hearCycle_108 : decode cX11_hearCycle 108 = .ok (.i2l, 1) := by decide +kernel
theorem dX11_hearCycle_109 : decode cX11_hearCycle 109 = .ok (.aload 8, 2) := by decide +kernel
theorem dX11_hearCycle_111 : decode cX11_hearCycle 111 = .ok (.getfield 150, 3) := by decide +kernel
theorem dX11_hearCycle_114 : decode cX11_hearCycle 114 = .ok (.lmul, 1) := by decide +kernel
theorem dX11_hearCycle_115 : decode cX11_hearCycle 115 = .ok (.ldc2_w 273, 3) := by decide +kernel
theorem dX11_hearCycle_118 : decode cX11_hearCycle 118 = .ok (.invokestatic 275, 3) := by decide +kernel
theorem dX11_hearCycle_121 : decode cX11_hearCycle 121 = .ok (.iconst 1, 1) := by decide +kernel
theorem dX11_hearCycle_122 : decode cX11_hearCycle 122 = .ok (.invokevirtual 279, 3) := by decide +kernel
theorem dX11_hearCycle_125 : decode cX11_hearCycle 125 = .ok (.iload 6, 2) := by decide +kernel
theorem dX11_hearCycle_127 : decode cX11_hearCycle 127 = .ok (.aload 9, 2) := by decide +kernel
theorem dX11_hearCycle_129 : decode cX11_hearCycle 129 = .ok (.getfield 285, 3) := by decide +kernel
theorem dX11_hearCycle_132 : decode cX11_hearCycle 132 = .ok (.iadd, 1) := by decide +kernel
theorem dX11_hearCycle_133 : decode cX11_hearCycle 133 = .ok (.istore 6, 2) := by decide +kernel
theorem dX11_hearCycle_135 : decode cX11_hearCycle 135 = .ok (.aload_n 0, 1) := by decide +kernel
theorem dX11_hearCycle_136 : decode cX11_hearCycle 136 = .ok (.getfield 37, 3) := by decide +kernel
theorem dX11_hearCycle_139 : decode cX11_hearCycle 139 = .ok (.aload 9, 2) := by decide +kernel
theorem dX11_hearCycle_141 : decode cX11_hearCycle 141 = .ok (.aload 8, 2) := by decide +kernel
theorem dX11_hearCycle_143 : decode cX11_hearCycle 143 = .ok (.getfield 150, 3) := by decide +kernel
theorem dX11_hearCycle_146 : decode cX11_hearCycle 146 = .ok (.iload 7, 2) := by decide +kernel
theorem dX11_hearCycle_148 : decode cX11_hearCycle 148 = .ok (.iload_n 1, 1) := by decide +kernel
theorem dX11_hearCycle_149 : decode cX11_hearCycle 149 = .ok (.iload 4, 2) := by decide +kernel
theorem dX11_hearCycle_151 : decode cX11_hearCycle 151 = .ok (.invokevirtual 178, 3) := by decide +kernel
theorem dX11_anyAlone_17 : decode cX11_anyAlone 17 = .ok (.iconst 1, 1) := by decide +kernel
theorem dX11_anyAlone_18 : decode cX11_anyAlone 18 = .ok (.ireturn, 1) := by decide +kernel
theorem dX11_tracksWithPattern_20 : decode cX11_tracksWithPattern 20 = .ok (.iconst 1, 1) := by decide +kernel
theorem dX11_tracksWithPattern_21 : decode cX11_tracksWithPattern 21 = .ok (.goto 4, 3) := by decide +kernel
theorem dX11_tracksWaiting_20 : decode cX11_tracksWaiting 20 = .ok (.iconst 1, 1) := by decide +kernel
theorem dX11_tracksWaiting_21 : decode cX11_tracksWaiting 21 = .ok (.goto 4, 3) := by decide +kernel
theorem dJ9_floorDiv_f86c9_0 : decode cJ9_floorDiv_f86c9 0 = .ok (.lload_n 0, 1) := by decide +kernel
theorem dJ9_floorDiv_f86c9_1 : decode cJ9_floorDiv_f86c9 1 = .ok (.lload_n 2, 1) := by decide +kernel
theorem dJ9_floorDiv_f86c9_2 : decode cJ9_floorDiv_f86c9 2 = .ok (.ldiv, 1) := by decide +kernel
theorem dJ9_floorDiv_f86c9_3 : decode cJ9_floorDiv_f86c9 3 = .ok (.lstore 4, 2) := by decide +kernel
theorem dJ9_floorDiv_f86c9_5 : decode cJ9_floorDiv_f86c9 5 = .ok (.lload_n 0, 1) := by decide +kernel
theorem dJ9_floorDiv_f86c9_6 : decode cJ9_floorDiv_f86c9 6 = .ok (.lload_n 2, 1) := by decide +kernel
theorem dJ9_floorDiv_f86c9_7 : decode cJ9_floorDiv_f86c9 7 = .ok (.lxor, 1) := by decide +kernel
theorem dJ9_floorDiv_f86c9_8 : decode cJ9_floorDiv_f86c9 8 = .ok (.lconst 0, 1) := by decide +kernel
theorem dJ9_floorDiv_f86c9_9 : decode cJ9_floorDiv_f86c9 9 = .ok (.lcmp, 1) := by decide +kernel
theorem dJ9_floorDiv_f86c9_10 : decode cJ9_floorDiv_f86c9 10 = .ok (.ifCond .ge 17, 3) := by decide +kernel
theorem dJ9_floorDiv_f86c9_13 : decode cJ9_floorDiv_f86c9 13 = .ok (.lload 4, 2) := by decide +kernel
theorem dJ9_floorDiv_f86c9_15 : decode cJ9_floorDiv_f86c9 15 = .ok (.lload_n 2, 1) := by decide +kernel
theorem dJ9_floorDiv_f86c9_16 : decode cJ9_floorDiv_f86c9 16 = .ok (.lmul, 1) := by decide +kernel
theorem dJ9_floorDiv_f86c9_17 : decode cJ9_floorDiv_f86c9 17 = .ok (.lload_n 0, 1) := by decide +kernel
theorem dJ9_floorDiv_f86c9_18 : decode cJ9_floorDiv_f86c9 18 = .ok (.lcmp, 1) := by decide +kernel
theorem dJ9_floorDiv_f86c9_19 : decode cJ9_floorDiv_f86c9 19 = .ok (.ifCond .eq 8, 3) := by decide +kernel
theorem dJ9_floorDiv_f86c9_22 : decode cJ9_floorDiv_f86c9 22 = .ok (.lload 4, 2) := by decide +kernel
theorem dJ9_floorDiv_f86c9_24 : decode cJ9_floorDiv_f86c9 24 = .ok (.lconst 1, 1) := by decide +kernel
theorem dJ9_floorDiv_f86c9_25 : decode cJ9_floorDiv_f86c9 25 = .ok (.lsub, 1) := by decide +kernel
theorem dJ9_floorDiv_f86c9_26 : decode cJ9_floorDiv_f86c9 26 = .ok (.lreturn, 1) := by decide +kernel
theorem dJ9_floorDiv_f86c9_27 : decode cJ9_floorDiv_f86c9 27 = .ok (.lload 4, 2) := by decide +kernel
theorem dJ9_floorDiv_f86c9_29 : decode cJ9_floorDiv_f86c9 29 = .ok (.lreturn, 1) := by decide +kernel
theorem dJ9_floorMod_f86c9_0 : decode cJ9_floorMod_f86c9 0 = .ok (.lload_n 0, 1) := by decide +kernel
theorem dJ9_floorMod_f86c9_1 : decode cJ9_floorMod_f86c9 1 = .ok (.lload_n 2, 1) := by decide +kernel
theorem dJ9_floorMod_f86c9_2 : decode cJ9_floorMod_f86c9 2 = .ok (.lrem, 1) := by decide +kernel
theorem dJ9_floorMod_f86c9_3 : decode cJ9_floorMod_f86c9 3 = .ok (.lstore 4, 2) := by decide +kernel
theorem dJ9_floorMod_f86c9_5 : decode cJ9_floorMod_f86c9 5 = .ok (.lload_n 0, 1) := by decide +kernel
theorem dJ9_floorMod_f86c9_6 : decode cJ9_floorMod_f86c9 6 = .ok (.lload_n 2, 1) := by decide +kernel
theorem dJ9_floorMod_f86c9_7 : decode cJ9_floorMod_f86c9 7 = .ok (.lxor, 1) := by decide +kernel
theorem dJ9_floorMod_f86c9_8 : decode cJ9_floorMod_f86c9 8 = .ok (.lconst 0, 1) := by decide +kernel
theorem dJ9_floorMod_f86c9_9 : decode cJ9_floorMod_f86c9 9 = .ok (.lcmp, 1) := by decide +kernel
theorem dJ9_floorMod_f86c9_10 : decode cJ9_floorMod_f86c9 10 = .ok (.ifCond .ge 15, 3) := by decide +kernel
theorem dJ9_floorMod_f86c9_13 : decode cJ9_floorMod_f86c9 13 = .ok (.lload 4, 2) := by decide +kernel
theorem dJ9_floorMod_f86c9_15 : decode cJ9_floorMod_f86c9 15 = .ok (.lconst 0, 1) := by decide +kernel
theorem dJ9_floorMod_f86c9_16 : decode cJ9_floorMod_f86c9 16 = .ok (.lcmp, 1) := by decide +kernel
theorem dJ9_floorMod_f86c9_17 : decode cJ9_floorMod_f86c9 17 = .ok (.ifCond .eq 8, 3) := by decide +kernel
theorem dJ9_floorMod_f86c9_20 : decode cJ9_floorMod_f86c9 20 = .ok (.lload 4, 2) := by decide +kernel
theorem dJ9_floorMod_f86c9_22 : decode cJ9_floorMod_f86c9 22 = .ok (.lload_n 2, 1) := by decide +kernel
theorem dJ9_floorMod_f86c9_23 : decode cJ9_floorMod_f86c9 23 = .ok (.ladd, 1) := by decide +kernel
theorem dJ9_floorMod_f86c9_24 : decode cJ9_floorMod_f86c9 24 = .ok (.lreturn, 1) := by decide +kernel
theorem dJ9_floorMod_f86c9_25 : decode cJ9_floorMod_f86c9 25 = .ok (.lload 4, 2) := by decide +kernel
theorem dJ9_floorMod_f86c9_27 : decode cJ9_floorMod_f86c9 27 = .ok (.lreturn, 1) := by decide +kernel
theorem dJx4a65c_grow_92f84_0 : decode cJx4a65c_grow_92f84 0 = .ok (.aload_n 0, 1) := by decide +kernel
theorem dJx4a65c_grow_92f84_1 : decode cJx4a65c_grow_92f84 1 = .ok (.getfield 9, 3) := by decide +kernel
theorem dJx4a65c_grow_92f84_4 : decode cJx4a65c_grow_92f84 4 = .ok (.arraylength, 1) := by decide +kernel
theorem dJx4a65c_grow_92f84_5 : decode cJx4a65c_grow_92f84 5 = .ok (.istore_n 2, 1) := by decide +kernel
theorem dJx4a65c_grow_92f84_6 : decode cJx4a65c_grow_92f84 6 = .ok (.iload_n 2, 1) := by decide +kernel
theorem dJx4a65c_grow_92f84_7 : decode cJx4a65c_grow_92f84 7 = .ok (.ifCond .gt 13, 3) := by decide +kernel
theorem dJx4a65c_grow_92f84_10 : decode cJx4a65c_grow_92f84 10 = .ok (.aload_n 0, 1) := by decide +kernel
theorem dJx4a65c_grow_92f84_11 : decode cJx4a65c_grow_92f84 11 = .ok (.getfield 9, 3) := by decide +kernel
theorem dJx4a65c_grow_92f84_14 : decode cJx4a65c_grow_92f84 14 = .ok (.getstatic 39, 3) := by decide +kernel
theorem dJx4a65c_grow_92f84_17 : decode cJx4a65c_grow_92f84 17 = .ok (.if_acmp .eq 28, 3) := by decide +kernel
theorem dJx4a65c_grow_92f84_20 : decode cJx4a65c_grow_92f84 20 = .ok (.iload_n 2, 1) := by decide +kernel
theorem dJx4a65c_grow_92f84_21 : decode cJx4a65c_grow_92f84 21 = .ok (.iload_n 1, 1) := by decide +kernel
theorem dJx4a65c_grow_92f84_22 : decode cJx4a65c_grow_92f84 22 = .ok (.iload_n 2, 1) := by decide +kernel
theorem dJx4a65c_grow_92f84_23 : decode cJx4a65c_grow_92f84 23 = .ok (.isub, 1) := by decide +kernel
theorem dJx4a65c_grow_92f84_24 : decode cJx4a65c_grow_92f84 24 = .ok (.iload_n 2, 1) := by decide +kernel
theorem dJx4a65c_grow_92f84_25 : decode cJx4a65c_grow_92f84 25 = .ok (.iconst 1, 1) := by decide +kernel
theorem dJx4a65c_grow_92f84_26 : decode cJx4a65c_grow_92f84 26 = .ok (.ishr, 1) := by decide +kernel
theorem dJx4a65c_grow_92f84_27 : decode cJx4a65c_grow_92f84 27 = .ok (.invokestatic 73, 3) := by decide +kernel
theorem dJx4a65c_grow_92f84_30 : decode cJx4a65c_grow_92f84 30 = .ok (.istore_n 3, 1) := by decide +kernel
theorem dJx4a65c_grow_92f84_31 : decode cJx4a65c_grow_92f84 31 = .ok (.aload_n 0, 1) := by decide +kernel
theorem dJx4a65c_grow_92f84_32 : decode cJx4a65c_grow_92f84 32 = .ok (.aload_n 0, 1) := by decide +kernel
theorem dJx4a65c_grow_92f84_33 : decode cJx4a65c_grow_92f84 33 = .ok (.getfield 9, 3) := by decide +kernel
theorem dJx4a65c_grow_92f84_36 : decode cJx4a65c_grow_92f84 36 = .ok (.iload_n 3, 1) := by decide +kernel
theorem dJx4a65c_grow_92f84_37 : decode cJx4a65c_grow_92f84 37 = .ok (.invokestatic 66, 3) := by decide +kernel
theorem dJx4a65c_grow_92f84_40 : decode cJx4a65c_grow_92f84 40 = .ok (.dup_x1, 1) := by decide +kernel
theorem dJx4a65c_grow_92f84_41 : decode cJx4a65c_grow_92f84 41 = .ok (.putfield 9, 3) := by decide +kernel
theorem dJx4a65c_grow_92f84_44 : decode cJx4a65c_grow_92f84 44 = .ok (.areturn, 1) := by decide +kernel
theorem dJx4a65c_grow_92f84_45 : decode cJx4a65c_grow_92f84 45 = .ok (.aload_n 0, 1) := by decide +kernel
theorem dJx4a65c_grow_92f84_46 : decode cJx4a65c_grow_92f84 46 = .ok (.bipush 10, 2) := by decide +kernel
theorem dJx4a65c_grow_92f84_48 : decode cJx4a65c_grow_92f84 48 = .ok (.iload_n 1, 1) := by decide +kernel
theorem dJx4a65c_grow_92f84_49 : decode cJx4a65c_grow_92f84 49 = .ok (.invokestatic 79, 3) := by decide +kernel
theorem dJx4a65c_grow_92f84_52 : decode cJx4a65c_grow_92f84 52 = .ok (.anewarray 7, 3) := by decide +kernel
theorem dJx4a65c_grow_92f84_55 : decode cJx4a65c_grow_92f84 55 = .ok (.dup_x1, 1) := by decide +kernel
theorem dJx4a65c_grow_92f84_56 : decode cJx4a65c_grow_92f84 56 = .ok (.putfield 9, 3) := by decide +kernel
theorem dJx4a65c_grow_92f84_59 : decode cJx4a65c_grow_92f84 59 = .ok (.areturn, 1) := by decide +kernel
theorem dJx4a65c_grow_d5877_0 : decode cJx4a65c_grow_d5877 0 = .ok (.aload_n 0, 1) := by decide +kernel
theorem dJx4a65c_grow_d5877_1 : decode cJx4a65c_grow_d5877 1 = .ok (.aload_n 0, 1) := by decide +kernel
theorem dJx4a65c_grow_d5877_2 : decode cJx4a65c_grow_d5877 2 = .ok (.getfield 48, 3) := by decide +kernel
theorem dJx4a65c_grow_d5877_5 : decode cJx4a65c_grow_d5877 5 = .ok (.iconst 1, 1) := by decide +kernel
theorem dJx4a65c_grow_d5877_6 : decode cJx4a65c_grow_d5877 6 = .ok (.iadd, 1) := by decide +kernel
theorem dJx4a65c_grow_d5877_7 : decode cJx4a65c_grow_d5877 7 = .ok (.invokevirtual 69, 3) := by decide +kernel
theorem dJx4a65c_grow_d5877_10 : decode cJx4a65c_grow_d5877 10 = .ok (.areturn, 1) := by decide +kernel
theorem dJx4a65c_elementData_915e3_0 : decode cJx4a65c_elementData_915e3 0 = .ok (.aload_n 0, 1) := by decide +kernel
theorem dJx4a65c_elementData_915e3_1 : decode cJx4a65c_elementData_915e3 1 = .ok (.getfield 9, 3) := by decide +kernel
theorem dJx4a65c_elementData_915e3_4 : decode cJx4a65c_elementData_915e3 4 = .ok (.iload_n 1, 1) := by decide +kernel
theorem dJx4a65c_elementData_915e3_5 : decode cJx4a65c_elementData_915e3 5 = .ok (.aaload, 1) := by decide +kernel
theorem dJx4a65c_elementData_915e3_6 : decode cJx4a65c_elementData_915e3 6 = .ok (.areturn, 1) := by decide +kernel
theorem dJx4a65c_get_915e3_0 : decode cJx4a65c_get_915e3 0 = .ok (.iload_n 1, 1) := by decide +kernel
theorem dJx4a65c_get_915e3_1 : decode cJx4a65c_get_915e3 1 = .ok (.aload_n 0, 1) := by decide +kernel
theorem dJx4a65c_get_915e3_2 : decode cJx4a65c_get_915e3 2 = .ok (.getfield 48, 3) := by decide +kernel
theorem dJx4a65c_get_915e3_5 : decode cJx4a65c_get_915e3 5 = .ok (.invokestatic 118, 3) := by decide +kernel
theorem dJx4a65c_get_915e3_8 : decode cJx4a65c_get_915e3 8 = .ok (.pop, 1) := by decide +kernel
theorem dJx4a65c_get_915e3_9 : decode cJx4a65c_get_915e3 9 = .ok (.aload_n 0, 1) := by decide +kernel
theorem dJx4a65c_get_915e3_10 : decode cJx4a65c_get_915e3 10 = .ok (.iload_n 1, 1) := by decide +kernel
theorem dJx4a65c_get_915e3_11 : decode cJx4a65c_get_915e3 11 = .ok (.invokevirtual 123, 3) := by decide +kernel
theorem dJx4a65c_get_915e3_14 : decode cJx4a65c_get_915e3 14 = .ok (.areturn, 1) := by decide +kernel
theorem dJx4a65c_set_bcc79_0 : decode cJx4a65c_set_bcc79 0 = .ok (.iload_n 1, 1) := by decide +kernel
theorem dJx4a65c_set_bcc79_1 : decode cJx4a65c_set_bcc79 1 = .ok (.aload_n 0, 1) := by decide +kernel
theorem dJx4a65c_set_bcc79_2 : decode cJx4a65c_set_bcc79 2 = .ok (.getfield 48, 3) := by decide +kernel
theorem dJx4a65c_set_bcc79_5 : decode cJx4a65c_set_bcc79 5 = .ok (.invokestatic 118, 3) := by decide +kernel
theorem dJx4a65c_set_bcc79_8 : decode cJx4a65c_set_bcc79 8 = .ok (.pop, 1) := by decide +kernel
theorem dJx4a65c_set_bcc79_9 : decode cJx4a65c_set_bcc79 9 = .ok (.aload_n 0, 1) := by decide +kernel
theorem dJx4a65c_set_bcc79_10 : decode cJx4a65c_set_bcc79 10 = .ok (.iload_n 1, 1) := by decide +kernel
theorem dJx4a65c_set_bcc79_11 : decode cJx4a65c_set_bcc79 11 = .ok (.invokevirtual 123, 3) := by decide +kernel
theorem dJx4a65c_set_bcc79_14 : decode cJx4a65c_set_bcc79 14 = .ok (.astore_n 3, 1) := by decide +kernel
theorem dJx4a65c_set_bcc79_15 : decode cJx4a65c_set_bcc79 15 = .ok (.aload_n 0, 1) := by decide +kernel
theorem dJx4a65c_set_bcc79_16 : decode cJx4a65c_set_bcc79 16 = .ok (.getfield 9, 3) := by decide +kernel
theorem dJx4a65c_set_bcc79_19 : decode cJx4a65c_set_bcc79 19 = .ok (.iload_n 1, 1) := by decide +kernel
theorem dJx4a65c_set_bcc79_20 : decode cJx4a65c_set_bcc79 20 = .ok (.aload_n 2, 1) := by decide +kernel
theorem dJx4a65c_set_bcc79_21 : decode cJx4a65c_set_bcc79 21 = .ok (.aastore, 1) := by decide +kernel
theorem dJx4a65c_set_bcc79_22 : decode cJx4a65c_set_bcc79 22 = .ok (.aload_n 3, 1) := by decide +kernel
theorem dJx4a65c_set_bcc79_23 : decode cJx4a65c_set_bcc79 23 = .ok (.areturn, 1) := by decide +kernel
theorem dJx4a65c_add_72be8_0 : decode cJx4a65c_add_72be8 0 = .ok (.iload_n 3, 1) := by decide +kernel
theorem dJx4a65c_add_72be8_1 : decode cJx4a65c_add_72be8 1 = .ok (.aload_n 2, 1) := by decide +kernel
theorem dJx4a65c_add_72be8_2 : decode cJx4a65c_add_72be8 2 = .ok (.arraylength, 1) := by decide +kernel
theorem dJx4a65c_add_72be8_3 : decode cJx4a65c_add_72be8 3 = .ok (.if_icmp .ne 8, 3) := by decide +kernel
theorem dJx4a65c_add_72be8_6 : decode cJx4a65c_add_72be8 6 = .ok (.aload_n 0, 1) := by decide +kernel
theorem dJx4a65c_add_72be8_7 : decode cJx4a65c_add_72be8 7 = .ok (.invokevirtual 129, 3) := by decide +kernel
theorem dJx4a65c_add_72be8_10 : decode cJx4a65c_add_72be8 10 = .ok (.astore_n 2, 1) := by decide +kernel
theorem dJx4a65c_add_72be8_11 : decode cJx4a65c_add_72be8 11 = .ok (.aload_n 2, 1) := by decide +kernel
theorem dJx4a65c_add_72be8_12 : decode cJx4a65c_add_72be8 12 = .ok (.iload_n 3, 1) := by decide +kernel
theorem dJx4a65c_add_72be8_13 : decode cJx4a65c_add_72be8 13 = .ok (.aload_n 1, 1) := by decide +kernel
theorem dJx4a65c_add_72be8_14 : decode cJx4a65c_add_72be8 14 = .ok (.aastore, 1) := by decide +kernel
theorem dJx4a65c_add_72be8_15 : decode cJx4a65c_add_72be8 15 = .ok (.aload_n 0, 1) := by decide +kernel
theorem dJx4a65c_add_72be8_16 : decode cJx4a65c_add_72be8 16 = .ok (.iload_n 3, 1) := by decide +kernel
theorem dJx4a65c_add_72be8_17 : decode cJx4a65c_add_72be8 17 = .ok (.iconst 1, 1) := by decide +kernel
theorem dJx4a65c_add_72be8_18 : decode cJx4a65c_add_72be8 18 = .ok (.iadd, 1) := by decide +kernel
theorem dJx4a65c_add_72be8_19 : decode cJx4a65c_add_72be8 19 = .ok (.putfield 48, 3) := by decide +kernel
theorem dJx4a65c_add_72be8_22 : decode cJx4a65c_add_72be8 22 = .ok (.return_, 1) := by decide +kernel
theorem dJx4a65c_add_9ea2d_0 : decode cJx4a65c_add_9ea2d 0 = .ok (.aload_n 0, 1) := by decide +kernel
theorem dJx4a65c_add_9ea2d_1 : decode cJx4a65c_add_9ea2d 1 = .ok (.dup, 1) := by decide +kernel
theorem dJx4a65c_add_9ea2d_2 : decode cJx4a65c_add_9ea2d 2 = .ok (.getfield 63, 3) := by decide +kernel
theorem dJx4a65c_add_9ea2d_5 : decode cJx4a65c_add_9ea2d 5 = .ok (.iconst 1, 1) := by decide +kernel
theorem dJx4a65c_add_9ea2d_6 : decode cJx4a65c_add_9ea2d 6 = .ok (.iadd, 1) := by decide +kernel
theorem dJx4a65c_add_9ea2d_7 : decode cJx4a65c_add_9ea2d 7 = .ok (.putfield 63, 3) := by decide +kernel
theorem dJx4a65c_add_9ea2d_10 : decode cJx4a65c_add_9ea2d 10 = .ok (.aload_n 0, 1) := by decide +kernel
theorem dJx4a65c_add_9ea2d_11 : decode cJx4a65c_add_9ea2d 11 = .ok (.aload_n 1, 1) := by decide +kernel
theorem dJx4a65c_add_9ea2d_12 : decode cJx4a65c_add_9ea2d 12 = .ok (.aload_n 0, 1) := by decide +kernel
theorem dJx4a65c_add_9ea2d_13 : decode cJx4a65c_add_9ea2d 13 = .ok (.getfield 9, 3) := by decide +kernel
theorem dJx4a65c_add_9ea2d_16 : decode cJx4a65c_add_9ea2d 16 = .ok (.aload_n 0, 1) := by decide +kernel
theorem dJx4a65c_add_9ea2d_17 : decode cJx4a65c_add_9ea2d 17 = .ok (.getfield 48, 3) := by decide +kernel
theorem dJx4a65c_add_9ea2d_20 : decode cJx4a65c_add_9ea2d 20 = .ok (.invokevirtual 131, 3) := by decide +kernel
theorem dJx4a65c_add_9ea2d_23 : decode cJx4a65c_add_9ea2d 23 = .ok (.iconst 1, 1) := by decide +kernel
theorem dJx4a65c_add_9ea2d_24 : decode cJx4a65c_add_9ea2d 24 = .ok (.ireturn, 1) := by decide +kernel
theorem dJx4a65c_clear_da8c8_32 : decode cJx4a65c_clear_da8c8 32 = .ok (.aload_n 1, 1) := by decide +kernel
theorem dJx4a65c_clear_da8c8_33 : decode cJx4a65c_clear_da8c8 33 = .ok (.iload_n 3, 1) := by decide +kernel
theorem dJx4a65c_clear_da8c8_34 : decode cJx4a65c_clear_da8c8 34 = .ok (.aconst_null, 1) := by decide +kernel
theorem dJx4a65c_clear_da8c8_35 : decode cJx4a65c_clear_da8c8 35 = .ok (.aastore, 1) := by decide +kernel
theorem dJx4a65c_clear_da8c8_36 : decode cJx4a65c_clear_da8c8 36 = .ok (.iinc 3 1, 3) := by decide +kernel
theorem dJx4a65c_clear_da8c8_39 : decode cJx4a65c_clear_da8c8 39 = .ok (.goto (-12), 3) := by decide +kernel
theorem dJ7_copyOf_1904c_0 : decode cJ7_copyOf_1904c 0 = .ok (.aload_n 0, 1) := by decide +kernel
theorem dJ7_copyOf_1904c_1 : decode cJ7_copyOf_1904c 1 = .ok (.iload_n 1, 1) := by decide +kernel
theorem dJ7_copyOf_1904c_2 : decode cJ7_copyOf_1904c 2 = .ok (.aload_n 0, 1) := by decide +kernel
theorem dJ7_copyOf_1904c_3 : decode cJ7_copyOf_1904c 3 = .ok (.invokevirtual 86, 3) := by decide +kernel
theorem dJ7_copyOf_1904c_6 : decode cJ7_copyOf_1904c 6 = .ok (.invokestatic 300, 3) := by decide +kernel
theorem dJ7_copyOf_1904c_9 : decode cJ7_copyOf_1904c 9 = .ok (.areturn, 1) := by decide +kernel
theorem dJ7_copyOf_6403c_0 : decode cJ7_copyOf_6403c 0 = .ok (.aload_n 2, 1) := by decide +kernel
theorem dJ7_copyOf_6403c_1 : decode cJ7_copyOf_6403c 1 = .ok (.ldc 110, 2) := by decide +kernel
theorem dJ7_copyOf_6403c_3 : decode cJ7_copyOf_6403c 3 = .ok (.if_acmp .ne 10, 3) := by decide +kernel
theorem dJ7_copyOf_6403c_6 : decode cJ7_copyOf_6403c 6 = .ok (.iload_n 1, 1) := by decide +kernel
theorem dJ7_copyOf_6403c_7 : decode cJ7_copyOf_6403c 7 = .ok (.anewarray 2, 3) := by decide +kernel
theorem dJ7_copyOf_6403c_10 : decode cJ7_copyOf_6403c 10 = .ok (.goto 14, 3) := by decide +kernel
theorem dJ7_copyOf_6403c_13 : decode cJ7_copyOf_6403c 13 = .ok (.aload_n 2, 1) := by decide +kernel
theorem dJ7_copyOf_6403c_14 : decode cJ7_copyOf_6403c 14 = .ok (.invokevirtual 90, 3) := by decide +kernel
theorem dJ7_copyOf_6403c_17 : decode cJ7_copyOf_6403c 17 = .ok (.iload_n 1, 1) := by decide +kernel
theorem dJ7_copyOf_6403c_18 : decode cJ7_copyOf_6403c 18 = .ok (.invokestatic 95, 3) := by decide +kernel
theorem dJ7_copyOf_6403c_21 : decode cJ7_copyOf_6403c 21 = .ok (.checkcast 110, 3) := by decide +kernel
theorem dJ7_copyOf_6403c_24 : decode cJ7_copyOf_6403c 24 = .ok (.astore_n 3, 1) := by decide +kernel
theorem dJ7_copyOf_6403c_25 : decode cJ7_copyOf_6403c 25 = .ok (.aload_n 0, 1) := by decide +kernel
theorem dJ7_copyOf_6403c_26 : decode cJ7_copyOf_6403c 26 = .ok (.iconst 0, 1) := by decide +kernel
theorem dJ7_copyOf_6403c_27 : decode cJ7_copyOf_6403c 27 = .ok (.aload_n 3, 1) := by decide +kernel
theorem dJ7_copyOf_6403c_28 : decode cJ7_copyOf_6403c 28 = .ok (.iconst 0, 1) := by decide +kernel
theorem dJ7_copyOf_6403c_29 : decode cJ7_copyOf_6403c 29 = .ok (.aload_n 0, 1) := by decide +kernel
theorem dJ7_copyOf_6403c_30 : decode cJ7_copyOf_6403c 30 = .ok (.arraylength, 1) := by decide +kernel
theorem dJ7_copyOf_6403c_31 : decode cJ7_copyOf_6403c 31 = .ok (.iload_n 1, 1) := by decide +kernel
theorem dJ7_copyOf_6403c_32 : decode cJ7_copyOf_6403c 32 = .ok (.invokestatic 304, 3) := by decide +kernel
theorem dJ7_copyOf_6403c_35 : decode cJ7_copyOf_6403c 35 = .ok (.invokestatic 150, 3) := by decide +kernel
theorem dJ7_copyOf_6403c_38 : decode cJ7_copyOf_6403c 38 = .ok (.aload_n 3, 1) := by decide +kernel
theorem dJ7_copyOf_6403c_39 : decode cJ7_copyOf_6403c 39 = .ok (.areturn, 1) := by decide +kernel
theorem dJ7_copyOf_59c91_0 : decode cJ7_copyOf_59c91 0 = .ok (.iload_n 1, 1) := by decide +kernel
theorem dJ7_copyOf_59c91_1 : decode cJ7_copyOf_59c91 1 = .ok (.aload_n 0, 1) := by decide +kernel
theorem dJ7_copyOf_59c91_2 : decode cJ7_copyOf_59c91 2 = .ok (.arraylength, 1) := by decide +kernel
theorem dJ7_copyOf_59c91_3 : decode cJ7_copyOf_59c91 3 = .ok (.if_icmp .ne 11, 3) := by decide +kernel
theorem dJ7_copyOf_59c91_6 : decode cJ7_copyOf_59c91 6 = .ok (.aload_n 0, 1) := by decide +kernel
theorem dJ7_copyOf_59c91_7 : decode cJ7_copyOf_59c91 7 = .ok (.invokevirtual 316, 3) := by decide +kernel
theorem dJ7_copyOf_59c91_10 : decode cJ7_copyOf_59c91 10 = .ok (.checkcast 317, 3) := by decide +kernel
theorem dJ7_copyOf_59c91_13 : decode cJ7_copyOf_59c91 13 = .ok (.areturn, 1) := by decide +kernel
theorem dJ7_copyOf_59c91_14 : decode cJ7_copyOf_59c91 14 = .ok (.iload_n 1, 1) := by decide +kernel
theorem dJ7_copyOf_59c91_15 : decode cJ7_copyOf_59c91 15 = .ok (.newarray .int, 2) := by decide +kernel
theorem dJ7_copyOf_59c91_17 : decode cJ7_copyOf_59c91 17 = .ok (.astore_n 2, 1) := by decide +kernel
theorem dJ7_copyOf_59c91_18 : decode cJ7_copyOf_59c91 18 = .ok (.aload_n 0, 1) := by decide +kernel
theorem dJ7_copyOf_59c91_19 : decode cJ7_copyOf_59c91 19 = .ok (.iconst 0, 1) := by decide +kernel
theorem dJ7_copyOf_59c91_20 : decode cJ7_copyOf_59c91 20 = .ok (.aload_n 2, 1) := by decide +kernel
theorem dJ7_copyOf_59c91_21 : decode cJ7_copyOf_59c91 21 = .ok (.iconst 0, 1) := by decide +kernel
theorem dJ7_copyOf_59c91_22 : decode cJ7_copyOf_59c91 22 = .ok (.aload_n 0, 1) := by decide +kernel
theorem dJ7_copyOf_59c91_23 : decode cJ7_copyOf_59c91 23 = .ok (.arraylength, 1) := by decide +kernel
theorem dJ7_copyOf_59c91_24 : decode cJ7_copyOf_59c91 24 = .ok (.iload_n 1, 1) := by decide +kernel
theorem dJ7_copyOf_59c91_25 : decode cJ7_copyOf_59c91 25 = .ok (.invokestatic 304, 3) := by decide +kernel
theorem dJ7_copyOf_59c91_28 : decode cJ7_copyOf_59c91 28 = .ok (.invokestatic 150, 3) := by decide +kernel
theorem dJ7_copyOf_59c91_31 : decode cJ7_copyOf_59c91 31 = .ok (.aload_n 2, 1) := by decide +kernel
theorem dJ7_copyOf_59c91_32 : decode cJ7_copyOf_59c91 32 = .ok (.areturn, 1) := by decide +kernel
theorem dJ15_checkIndex_7cf53_0 : decode cJ15_checkIndex_7cf53 0 = .ok (.iload_n 0, 1) := by decide +kernel
theorem dJ15_checkIndex_7cf53_1 : decode cJ15_checkIndex_7cf53 1 = .ok (.iload_n 1, 1) := by decide +kernel
theorem dJ15_checkIndex_7cf53_2 : decode cJ15_checkIndex_7cf53 2 = .ok (.aconst_null, 1) := by decide +kernel
theorem dJ15_checkIndex_7cf53_3 : decode cJ15_checkIndex_7cf53 3 = .ok (.invokestatic 105, 3) := by decide +kernel
theorem dJ15_checkIndex_7cf53_6 : decode cJ15_checkIndex_7cf53 6 = .ok (.ireturn, 1) := by decide +kernel
theorem dJ8_newLength_cabcc_0 : decode cJ8_newLength_cabcc 0 = .ok (.iload_n 0, 1) := by decide +kernel
theorem dJ8_newLength_cabcc_1 : decode cJ8_newLength_cabcc 1 = .ok (.iload_n 1, 1) := by decide +kernel
theorem dJ8_newLength_cabcc_2 : decode cJ8_newLength_cabcc 2 = .ok (.iload_n 2, 1) := by decide +kernel
theorem dJ8_newLength_cabcc_3 : decode cJ8_newLength_cabcc 3 = .ok (.invokestatic 194, 3) := by decide +kernel
theorem dJ8_newLength_cabcc_6 : decode cJ8_newLength_cabcc 6 = .ok (.iadd, 1) := by decide +kernel
theorem dJ8_newLength_cabcc_7 : decode cJ8_newLength_cabcc 7 = .ok (.istore_n 3, 1) := by decide +kernel
theorem dJ8_newLength_cabcc_8 : decode cJ8_newLength_cabcc 8 = .ok (.iconst 0, 1) := by decide +kernel
theorem dJ8_newLength_cabcc_9 : decode cJ8_newLength_cabcc 9 = .ok (.iload_n 3, 1) := by decide +kernel
theorem dJ8_newLength_cabcc_10 : decode cJ8_newLength_cabcc 10 = .ok (.if_icmp .ge 11, 3) := by decide +kernel
theorem dJ8_newLength_cabcc_13 : decode cJ8_newLength_cabcc 13 = .ok (.iload_n 3, 1) := by decide +kernel
theorem dJ8_newLength_cabcc_14 : decode cJ8_newLength_cabcc 14 = .ok (.ldc 200, 2) := by decide +kernel
theorem dJ8_newLength_cabcc_16 : decode cJ8_newLength_cabcc 16 = .ok (.if_icmp .gt 5, 3) := by decide +kernel
theorem dJ8_newLength_cabcc_19 : decode cJ8_newLength_cabcc 19 = .ok (.iload_n 3, 1) := by decide +kernel
theorem dJ8_newLength_cabcc_20 : decode cJ8_newLength_cabcc 20 = .ok (.ireturn, 1) := by decide +kernel
theorem dJ8_newLength_cabcc_21 : decode cJ8_newLength_cabcc 21 = .ok (.iload_n 0, 1) := by decide +kernel
theorem dJ8_newLength_cabcc_22 : decode cJ8_newLength_cabcc 22 = .ok (.iload_n 1, 1) := by decide +kernel
theorem dJ8_newLength_cabcc_23 : decode cJ8_newLength_cabcc 23 = .ok (.invokestatic 201, 3) := by decide +kernel
theorem dJ8_newLength_cabcc_26 : decode cJ8_newLength_cabcc 26 = .ok (.ireturn, 1) := by decide +kernel
