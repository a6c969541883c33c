theorem dX7_within_0 : decode cX7_within 0 = .ok (.aload_n 0, 1) := by decide +kernel
theorem dX7_within_1 : decode cX7_within 1 = .ok (.getfield 12, 3) := by decide +kernel
theorem dX7_within_4 : decode cX7_within 4 = .ok (.getfield 28, 3) := by decide +kernel
theorem dX7_within_7 : decode cX7_within 7 = .ok (.istore 8, 2) := by decide +kernel
theorem dX7_within_9 : decode cX7_within 9 = .ok (.aload_n 0, 1) := by decide +kernel
theorem dX7_within_10 : decode cX7_within 10 = .ok (.aload_n 1, 1) := by decide +kernel
theorem dX7_within_11 : decode cX7_within 11 = .ok (.getfield 125, 3) := by decide +kernel
theorem dX7_within_14 : decode cX7_within 14 = .ok (.iconst 0, 1) := by decide +kernel
theorem dX7_within_15 : decode cX7_within 15 = .ok (.aaload, 1) := by decide +kernel
theorem dX7_within_16 : decode cX7_within 16 = .ok (.lload_n 2, 1) := by decide +kernel
theorem dX7_within_17 : decode cX7_within 17 = .ok (.invokevirtual 31, 3) := by decide +kernel
theorem dX7_within_20 : decode cX7_within 20 = .ok (.aload_n 0, 1) := by decide +kernel
theorem dX7_within_21 : decode cX7_within 21 = .ok (.getfield 12, 3) := by decide +kernel
theorem dX7_within_24 : decode cX7_within 24 = .ok (.iload 8, 2) := by decide +kernel
theorem dX7_within_26 : decode cX7_within 26 = .ok (.aload_n 1, 1) := by decide +kernel
theorem dX7_within_27 : decode cX7_within 27 = .ok (.getfield 101, 3) := by decide +kernel
theorem dX7_within_30 : decode cX7_within 30 = .ok (.aload_n 1, 1) := by decide +kernel
theorem dX7_within_31 : decode cX7_within 31 = .ok (.getfield 125, 3) := by decide +kernel
theorem dX7_within_34 : decode cX7_within 34 = .ok (.iconst 0, 1) := by decide +kernel
theorem dX7_within_35 : decode cX7_within 35 = .ok (.aaload, 1) := by decide +kernel
theorem dX7_within_36 : decode cX7_within 36 = .ok (.getfield 101, 3) := by decide +kernel
theorem dX7_within_39 : decode cX7_within 39 = .ok (.ldiv, 1) := by decide +kernel
theorem dX7_within_40 : decode cX7_within 40 = .ok (.lconst 0, 1) := by decide +kernel
theorem dX7_within_41 : decode cX7_within 41 = .ok (.invokevirtual 162, 3) := by decide +kernel
theorem dX7_within_44 : decode cX7_within 44 = .ok (.aload_n 0, 1) := by decide +kernel
theorem dX7_within_45 : decode cX7_within 45 = .ok (.getfield 12, 3) := by decide +kernel
theorem dX7_within_48 : decode cX7_within 48 = .ok (.iload 8, 2) := by decide +kernel
theorem dX7_within_50 : decode cX7_within 50 = .ok (.lload 4, 2) := by decide +kernel
theorem dX7_within_52 : decode cX7_within 52 = .ok (.lload 6, 2) := by decide +kernel
theorem dX7_within_54 : decode cX7_within 54 = .ok (.iconst 0, 1) := by decide +kernel
theorem dX7_within_55 : decode cX7_within 55 = .ok (.invokevirtual 172, 3) := by decide +kernel
theorem dX7_within_58 : decode cX7_within 58 = .ok (.aload_n 0, 1) := by decide +kernel
theorem dX7_within_59 : decode cX7_within 59 = .ok (.getfield 12, 3) := by decide +kernel
theorem dX7_within_62 : decode cX7_within 62 = .ok (.getfield 28, 3) := by decide +kernel
theorem dX7_within_65 : decode cX7_within 65 = .ok (.istore 9, 2) := by decide +kernel
theorem dX7_within_67 : decode cX7_within 67 = .ok (.aload_n 0, 1) := by decide +kernel
theorem dX7_within_68 : decode cX7_within 68 = .ok (.aload_n 1, 1) := by decide +kernel
theorem dX7_within_69 : decode cX7_within 69 = .ok (.getfield 125, 3) := by decide +kernel
theorem dX7_within_72 : decode cX7_within 72 = .ok (.iconst 1, 1) := by decide +kernel
theorem dX7_within_73 : decode cX7_within 73 = .ok (.aaload, 1) := by decide +kernel
theorem dX7_within_74 : decode cX7_within 74 = .ok (.lload_n 2, 1) := by decide +kernel
theorem dX7_within_75 : decode cX7_within 75 = .ok (.invokevirtual 31, 3) := by decide +kernel
theorem dX7_within_78 : decode cX7_within 78 = .ok (.aload_n 0, 1) := by decide +kernel
theorem dX7_within_79 : decode cX7_within 79 = .ok (.getfield 12, 3) := by decide +kernel
theorem dX7_within_82 : decode cX7_within 82 = .ok (.iload 9, 2) := by decide +kernel
theorem dX7_within_84 : decode cX7_within 84 = .ok (.aload_n 1, 1) := by decide +kernel
theorem dX7_within_85 : decode cX7_within 85 = .ok (.getfield 101, 3) := by decide +kernel
theorem dX7_within_88 : decode cX7_within 88 = .ok (.aload_n 1, 1) := by decide +kernel
theorem dX7_within_89 : decode cX7_within 89 = .ok (.getfield 125, 3) := by decide +kernel
theorem dX7_within_92 : decode cX7_within 92 = .ok (.iconst 1, 1) := by decide +kernel
theorem dX7_within_93 : decode cX7_within 93 = .ok (.aaload, 1) := by decide +kernel
theorem dX7_within_94 : decode cX7_within 94 = .ok (.getfield 101, 3) := by decide +kernel
theorem dX7_within_97 : decode cX7_within 97 = .ok (.ldiv, 1) := by decide +kernel
theorem dX7_within_98 : decode cX7_within 98 = .ok (.lconst 0, 1) := by decide +kernel
theorem dX7_within_99 : decode cX7_within 99 = .ok (.invokevirtual 162, 3) := by decide +kernel
theorem dX7_within_102 : decode cX7_within 102 = .ok (.aload_n 0, 1) := by decide +kernel
theorem dX7_within_103 : decode cX7_within 103 = .ok (.getfield 12, 3) := by decide +kernel
theorem dX7_within_106 : decode cX7_within 106 = .ok (.iload 9, 2) := by decide +kernel
theorem dX7_within_108 : decode cX7_within 108 = .ok (.lload 4, 2) := by decide +kernel
theorem dX7_within_110 : decode cX7_within 110 = .ok (.lload 6, 2) := by decide +kernel
theorem dX7_within_112 : decode cX7_within 112 = .ok (.iconst 1, 1) := by decide +kernel
theorem dX7_within_113 : decode cX7_within 113 = .ok (.invokevirtual 172, 3) := by decide +kernel
theorem dX7_within_116 : decode cX7_within 116 = .ok (.aload_n 0, 1) := by decide +kernel
theorem dX7_within_117 : decode cX7_within 117 = .ok (.getfield 12, 3) := by decide +kernel
theorem dX7_within_120 : decode cX7_within 120 = .ok (.iload 8, 2) := by decide +kernel
theorem dX7_within_122 : decode cX7_within 122 = .ok (.invokevirtual 168, 3) := by decide +kernel
theorem dX7_within_125 : decode cX7_within 125 = .ok (.return_, 1) := by decide +kernel
theorem dX7_ply_0 : decode cX7_ply 0 = .ok (.aload_n 1, 1) := by decide +kernel
theorem dX7_ply_1 : decode cX7_ply 1 = .ok (.getfield 125, 3) := by decide +kernel
theorem dX7_ply_4 : decode cX7_ply 4 = .ok (.iconst 0, 1) := by decide +kernel
theorem dX7_ply_5 : decode cX7_ply 5 = .ok (.aaload, 1) := by decide +kernel
theorem dX7_ply_6 : decode cX7_ply 6 = .ok (.astore 4, 2) := by decide +kernel
theorem dX7_ply_8 : decode cX7_ply 8 = .ok (.aload_n 1, 1) := by decide +kernel
theorem dX7_ply_9 : decode cX7_ply 9 = .ok (.getfield 41, 3) := by decide +kernel
theorem dX7_ply_12 : decode cX7_ply 12 = .ok (.getfield 57, 3) := by decide +kernel
theorem dX7_ply_15 : decode cX7_ply 15 = .ok (.istore 5, 2) := by decide +kernel
theorem dX7_ply_17 : decode cX7_ply 17 = .ok (.aload_n 0, 1) := by decide +kernel
theorem dX7_ply_18 : decode cX7_ply 18 = .ok (.getfield 12, 3) := by decide +kernel
theorem dX7_ply_21 : decode cX7_ply 21 = .ok (.getfield 28, 3) := by decide +kernel
theorem dX7_ply_24 : decode cX7_ply 24 = .ok (.istore 6, 2) := by decide +kernel
theorem dX7_ply_26 : decode cX7_ply 26 = .ok (.lload_n 2, 1) := by decide +kernel
theorem dX7_ply_27 : decode cX7_ply 27 = .ok (.aload 4, 2) := by decide +kernel
theorem dX7_ply_29 : decode cX7_ply 29 = .ok (.getfield 181, 3) := by decide +kernel
theorem dX7_ply_32 : decode cX7_ply 32 = .ok (.lsub, 1) := by decide +kernel
theorem dX7_ply_33 : decode cX7_ply 33 = .ok (.lstore 7, 2) := by decide +kernel
theorem dX7_ply_35 : decode cX7_ply 35 = .ok (.lload 7, 2) := by decide +kernel
theorem dX7_ply_37 : decode cX7_ply 37 = .ok (.lload_n 2, 1) := by decide +kernel
theorem dX7_ply_38 : decode cX7_ply 38 = .ok (.lcmp, 1) := by decide +kernel
theorem dX7_ply_39 : decode cX7_ply 39 = .ok (.ifCond .gt 87, 3) := by decide +kernel
theorem dX7_ply_42 : decode cX7_ply 42 = .ok (.aload_n 0, 1) := by decide +kernel
theorem dX7_ply_43 : decode cX7_ply 43 = .ok (.getfield 12, 3) := by decide +kernel
theorem dX7_ply_46 : decode cX7_ply 46 = .ok (.getfield 28, 3) := by decide +kernel
theorem dX7_ply_49 : decode cX7_ply 49 = .ok (.istore 9, 2) := by decide +kernel
theorem dX7_ply_51 : decode cX7_ply 51 = .ok (.aload_n 0, 1) := by decide +kernel
theorem dX7_ply_52 : decode cX7_ply 52 = .ok (.aload 4, 2) := by decide +kernel
theorem dX7_ply_54 : decode cX7_ply 54 = .ok (.lload 7, 2) := by decide +kernel
theorem dX7_ply_56 : decode cX7_ply 56 = .ok (.invokevirtual 31, 3) := by decide +kernel
theorem dX7_ply_59 : decode cX7_ply 59 = .ok (.aload_n 0, 1) := by decide +kernel
theorem dX7_ply_60 : decode cX7_ply 60 = .ok (.getfield 12, 3) := by decide +kernel
theorem dX7_ply_63 : decode cX7_ply 63 = .ok (.getfield 28, 3) := by decide +kernel
theorem dX7_ply_66 : decode cX7_ply 66 = .ok (.istore 10, 2) := by decide +kernel
theorem dX7_ply_68 : decode cX7_ply 68 = .ok (.iload 9, 2) := by decide +kernel
theorem dX7_ply_70 : decode cX7_ply 70 = .ok (.istore 11, 2) := by decide +kernel
theorem dX7_ply_72 : decode cX7_ply 72 = .ok (.iload 11, 2) := by decide +kernel
theorem dX7_ply_74 : decode cX7_ply 74 = .ok (.iload 10, 2) := by decide +kernel
theorem dX7_ply_76 : decode cX7_ply 76 = .ok (.if_icmp .ge 30, 3) := by decide +kernel
theorem dX7_ply_79 : decode cX7_ply 79 = .ok (.aload_n 0, 1) := by decide +kernel
theorem dX7_ply_80 : decode cX7_ply 80 = .ok (.iload 11, 2) := by decide +kernel
theorem dX7_ply_82 : decode cX7_ply 82 = .ok (.iload 5, 2) := by decide +kernel
theorem dX7_ply_84 : decode cX7_ply 84 = .ok (.lload 7, 2) := by decide +kernel
theorem dX7_ply_86 : decode cX7_ply 86 = .ok (.lload_n 2, 1) := by decide +kernel
theorem dX7_ply_87 : decode cX7_ply 87 = .ok (.lsub, 1) := by decide +kernel
theorem dX7_ply_88 : decode cX7_ply 88 = .ok (.aload_n 1, 1) := by decide +kernel
theorem dX7_ply_89 : decode cX7_ply 89 = .ok (.getfield 101, 3) := by decide +kernel
theorem dX7_ply_92 : decode cX7_ply 92 = .ok (.lmul, 1) := by decide +kernel
theorem dX7_ply_93 : decode cX7_ply 93 = .ok (.aload_n 1, 1) := by decide +kernel
theorem dX7_ply_94 : decode cX7_ply 94 = .ok (.getfield 101, 3) := by decide +kernel
theorem dX7_ply_97 : decode cX7_ply 97 = .ok (.invokevirtual 184, 3) := by decide +kernel
theorem dX7_ply_100 : decode cX7_ply 100 = .ok (.iinc 11 1, 3) := by decide +kernel
theorem dX7_ply_103 : decode cX7_ply 103 = .ok (.goto (-31), 3) := by decide +kernel
theorem dX7_ply_106 : decode cX7_ply 106 = .ok (.aload_n 0, 1) := by decide +kernel
theorem dX7_ply_107 : decode cX7_ply 107 = .ok (.getfield 12, 3) := by decide +kernel
theorem dX7_ply_110 : decode cX7_ply 110 = .ok (.iload 9, 2) := by decide +kernel
theorem dX7_ply_112 : decode cX7_ply 112 = .ok (.iload 10, 2) := by decide +kernel
theorem dX7_ply_114 : decode cX7_ply 114 = .ok (.invokevirtual 187, 3) := by decide +kernel
theorem dX7_ply_117 : decode cX7_ply 117 = .ok (.lload 7, 2) := by decide +kernel
theorem dX7_ply_119 : decode cX7_ply 119 = .ok (.lconst 1, 1) := by decide +kernel
theorem dX7_ply_120 : decode cX7_ply 120 = .ok (.ladd, 1) := by decide +kernel
theorem dX7_ply_121 : decode cX7_ply 121 = .ok (.lstore 7, 2) := by decide +kernel
theorem dX7_ply_123 : decode cX7_ply 123 = .ok (.goto (-88), 3) := by decide +kernel
theorem dX7_ply_126 : decode cX7_ply 126 = .ok (.aload_n 0, 1) := by decide +kernel
theorem dX7_ply_127 : decode cX7_ply 127 = .ok (.getfield 12, 3) := by decide +kernel
theorem dX7_ply_130 : decode cX7_ply 130 = .ok (.iload 6, 2) := by decide +kernel
theorem dX7_ply_132 : decode cX7_ply 132 = .ok (.invokevirtual 168, 3) := by decide +kernel
theorem dX7_ply_135 : decode cX7_ply 135 = .ok (.return_, 1) := by decide +kernel
theorem dX7_plyOne_0 : decode cX7_plyOne 0 = .ok (.aload_n 0, 1) := by decide +kernel
theorem dX7_plyOne_1 : decode cX7_plyOne 1 = .ok (.getfield 12, 3) := by decide +kernel
theorem dX7_plyOne_4 : decode cX7_plyOne 4 = .ok (.getfield 152, 3) := by decide +kernel
theorem dX7_plyOne_7 : decode cX7_plyOne 7 = .ok (.iload_n 1, 1) := by decide +kernel
theorem dX7_plyOne_8 : decode cX7_plyOne 8 = .ok (.laload, 1) := by decide +kernel
theorem dX7_plyOne_9 : decode cX7_plyOne 9 = .ok (.lstore 7, 2) := by decide +kernel
theorem dX7_plyOne_11 : decode cX7_plyOne 11 = .ok (.aload_n 0, 1) := by decide +kernel
theorem dX7_plyOne_12 : decode cX7_plyOne 12 = .ok (.getfield 12, 3) := by decide +kernel
theorem dX7_plyOne_15 : decode cX7_plyOne 15 = .ok (.getfield 148, 3) := by decide +kernel
theorem dX7_plyOne_18 : decode cX7_plyOne 18 = .ok (.iload_n 1, 1) := by decide +kernel
theorem dX7_plyOne_19 : decode cX7_plyOne 19 = .ok (.laload, 1) := by decide +kernel
theorem dX7_plyOne_20 : decode cX7_plyOne 20 = .ok (.iload_n 2, 1) := by decide +kernel
theorem dX7_plyOne_21 : decode cX7_plyOne 21 = .ok (.i2l, 1) := by decide +kernel
theorem dX7_plyOne_22 : decode cX7_plyOne 22 = .ok (.lmul, 1) := by decide +kernel
theorem dX7_plyOne_23 : decode cX7_plyOne 23 = .ok (.lload_n 3, 1) := by decide +kernel
theorem dX7_plyOne_24 : decode cX7_plyOne 24 = .ok (.ladd, 1) := by decide +kernel
theorem dX7_plyOne_25 : decode cX7_plyOne 25 = .ok (.lstore 9, 2) := by decide +kernel
theorem dX7_plyOne_27 : decode cX7_plyOne 27 = .ok (.iconst 0, 1) := by decide +kernel
theorem dX7_plyOne_28 : decode cX7_plyOne 28 = .ok (.istore 11, 2) := by decide +kernel
theorem dX7_plyOne_30 : decode cX7_plyOne 30 = .ok (.iload 11, 2) := by decide +kernel
theorem dX7_plyOne_32 : decode cX7_plyOne 32 = .ok (.iload_n 2, 1) := by decide +kernel
theorem dX7_plyOne_33 : decode cX7_plyOne 33 = .ok (.if_icmp .ge 69, 3) := by decide +kernel
theorem dX7_plyOne_36 : decode cX7_plyOne 36 = .ok (.lload 9, 2) := by decide +kernel
theorem dX7_plyOne_38 : decode cX7_plyOne 38 = .ok (.lconst 0, 1) := by decide +kernel
theorem dX7_plyOne_39 : decode cX7_plyOne 39 = .ok (.lcmp, 1) := by decide +kernel
theorem dX7_plyOne_40 : decode cX7_plyOne 40 = .ok (.ifCond .lt 49, 3) := by decide +kernel
theorem dX7_plyOne_43 : decode cX7_plyOne 43 = .ok (.lload 9, 2) := by decide +kernel
theorem dX7_plyOne_45 : decode cX7_plyOne 45 = .ok (.lload 5, 2) := by decide +kernel
theorem dX7_plyOne_47 : decode cX7_plyOne 47 = .ok (.lcmp, 1) := by decide +kernel
theorem dX7_plyOne_48 : decode cX7_plyOne 48 = .ok (.ifCond .ge 41, 3) := by decide +kernel
theorem dX7_plyOne_51 : decode cX7_plyOne 51 = .ok (.aload_n 0, 1) := by decide +kernel
theorem dX7_plyOne_52 : decode cX7_plyOne 52 = .ok (.getfield 12, 3) := by decide +kernel
theorem dX7_plyOne_55 : decode cX7_plyOne 55 = .ok (.lload 9, 2) := by decide +kernel
theorem dX7_plyOne_57 : decode cX7_plyOne 57 = .ok (.lload 7, 2) := by decide +kernel
theorem dX7_plyOne_59 : decode cX7_plyOne 59 = .ok (.aload_n 0, 1) := by decide +kernel
theorem dX7_plyOne_60 : decode cX7_plyOne 60 = .ok (.getfield 12, 3) := by decide +kernel
theorem dX7_plyOne_63 : decode cX7_plyOne 63 = .ok (.getfield 191, 3) := by decide +kernel
theorem dX7_plyOne_66 : decode cX7_plyOne 66 = .ok (.iload_n 1, 1) := by decide +kernel
theorem dX7_plyOne_67 : decode cX7_plyOne 67 = .ok (.laload, 1) := by decide +kernel
theorem dX7_plyOne_68 : decode cX7_plyOne 68 = .ok (.aload_n 0, 1) := by decide +kernel
theorem dX7_plyOne_69 : decode cX7_plyOne 69 = .ok (.getfield 12, 3) := by decide +kernel
theorem dX7_plyOne_72 : decode cX7_plyOne 72 = .ok (.getfield 193, 3) := by decide +kernel
theorem dX7_plyOne_75 : decode cX7_plyOne 75 = .ok (.iload_n 1, 1) := by decide +kernel
theorem dX7_plyOne_76 : decode cX7_plyOne 76 = .ok (.iaload, 1) := by decide +kernel
theorem dX7_plyOne_77 : decode cX7_plyOne 77 = .ok (.aload_n 0, 1) := by decide +kernel
theorem dX7_plyOne_78 : decode cX7_plyOne 78 = .ok (.getfield 12, 3) := by decide +kernel
theorem dX7_plyOne_81 : decode cX7_plyOne 81 = .ok (.getfield 196, 3) := by decide +kernel
theorem dX7_plyOne_84 : decode cX7_plyOne 84 = .ok (.iload_n 1, 1) := by decide +kernel
theorem dX7_plyOne_85 : decode cX7_plyOne 85 = .ok (.baload, 1) := by decide +kernel
theorem dX7_plyOne_86 : decode cX7_plyOne 86 = .ok (.invokevirtual 53, 3) := by decide +kernel
theorem dX7_plyOne_89 : decode cX7_plyOne 89 = .ok (.lload 9, 2) := by decide +kernel
theorem dX7_plyOne_91 : decode cX7_plyOne 91 = .ok (.lload 7, 2) := by decide +kernel
theorem dX7_plyOne_93 : decode cX7_plyOne 93 = .ok (.ladd, 1) := by decide +kernel
theorem dX7_plyOne_94 : decode cX7_plyOne 94 = .ok (.lstore 9, 2) := by decide +kernel
theorem dX7_plyOne_96 : decode cX7_plyOne 96 = .ok (.iinc 11 1, 3) := by decide +kernel
theorem dX7_plyOne_99 : decode cX7_plyOne 99 = .ok (.goto (-69), 3) := by decide +kernel
theorem dX7_plyOne_102 : decode cX7_plyOne 102 = .ok (.return_, 1) := by decide +kernel
theorem dX7_rotate_0 : decode cX7_rotate 0 = .ok (.aload_n 0, 1) := by decide +kernel
theorem dX7_rotate_1 : decode cX7_rotate 1 = .ok (.getfield 12, 3) := by decide +kernel
theorem dX7_rotate_4 : decode cX7_rotate 4 = .ok (.getfield 28, 3) := by decide +kernel
theorem dX7_rotate_7 : decode cX7_rotate 7 = .ok (.istore 4, 2) := by decide +kernel
theorem dX7_rotate_9 : decode cX7_rotate 9 = .ok (.aload_n 0, 1) := by decide +kernel
theorem dX7_rotate_10 : decode cX7_rotate 10 = .ok (.aload_n 1, 1) := by decide +kernel
theorem dX7_rotate_11 : decode cX7_rotate 11 = .ok (.getfield 125, 3) := by decide +kernel
theorem dX7_rotate_14 : decode cX7_rotate 14 = .ok (.iconst 0, 1) := by decide +kernel
theorem dX7_rotate_15 : decode cX7_rotate 15 = .ok (.aaload, 1) := by decide +kernel
theorem dX7_rotate_16 : decode cX7_rotate 16 = .ok (.lload_n 2, 1) := by decide +kernel
theorem dX7_rotate_17 : decode cX7_rotate 17 = .ok (.invokevirtual 31, 3) := by decide +kernel
theorem dX7_rotate_20 : decode cX7_rotate 20 = .ok (.aload_n 0, 1) := by decide +kernel
theorem dX7_rotate_21 : decode cX7_rotate 21 = .ok (.getfield 12, 3) := by decide +kernel
theorem dX7_rotate_24 : decode cX7_rotate 24 = .ok (.iload 4, 2) := by decide +kernel
theorem dX7_rotate_26 : decode cX7_rotate 26 = .ok (.aload_n 1, 1) := by decide +kernel
theorem dX7_rotate_27 : decode cX7_rotate 27 = .ok (.getfield 41, 3) := by decide +kernel
theorem dX7_rotate_30 : decode cX7_rotate 30 = .ok (.getfield 57, 3) := by decide +kernel
theorem dX7_rotate_33 : decode cX7_rotate 33 = .ok (.invokevirtual 200, 3) := by decide +kernel
theorem dX7_rotate_36 : decode cX7_rotate 36 = .ok (.return_, 1) := by decide +kernel
theorem dX7_squeeze_0 : decode cX7_squeeze 0 = .ok (.aload_n 1, 1) := by decide +kernel
theorem dX7_squeeze_1 : decode cX7_squeeze 1 = .ok (.getfield 41, 3) := by decide +kernel
theorem dX7_squeeze_4 : decode cX7_squeeze 4 = .ok (.astore 4, 2) := by decide +kernel
theorem dX7_squeeze_6 : decode cX7_squeeze 6 = .ok (.aload_n 0, 1) := by decide +kernel
theorem dX7_squeeze_7 : decode cX7_squeeze 7 = .ok (.getfield 12, 3) := by decide +kernel
theorem dX7_squeeze_10 : decode cX7_squeeze 10 = .ok (.getfield 28, 3) := by decide +kernel
theorem dX7_squeeze_13 : decode cX7_squeeze 13 = .ok (.istore 5, 2) := by decide +kernel
theorem dX7_squeeze_15 : decode cX7_squeeze 15 = .ok (.aload_n 0, 1) := by decide +kernel
theorem dX7_squeeze_16 : decode cX7_squeeze 16 = .ok (.aload_n 1, 1) := by decide +kernel
theorem dX7_squeeze_17 : decode cX7_squeeze 17 = .ok (.getfield 125, 3) := by decide +kernel
theorem dX7_squeeze_20 : decode cX7_squeeze 20 = .ok (.iconst 0, 1) := by decide +kernel
theorem dX7_squeeze_21 : decode cX7_squeeze 21 = .ok (.aaload, 1) := by decide +kernel
theorem dX7_squeeze_22 : decode cX7_squeeze 22 = .ok (.lload_n 2, 1) := by decide +kernel
theorem dX7_squeeze_23 : decode cX7_squeeze 23 = .ok (.invokevirtual 31, 3) := by decide +kernel
theorem dX7_squeeze_26 : decode cX7_squeeze 26 = .ok (.aload_n 1, 1) := by decide +kernel
theorem dX7_squeeze_27 : decode cX7_squeeze 27 = .ok (.invokevirtual 203, 3) := by decide +kernel
theorem dX7_squeeze_30 : decode cX7_squeeze 30 = .ok (.aload_n 1, 1) := by decide +kernel
theorem dX7_squeeze_31 : decode cX7_squeeze 31 = .ok (.getfield 101, 3) := by decide +kernel
theorem dX7_squeeze_34 : decode cX7_squeeze 34 = .ok (.aload_n 1, 1) := by decide +kernel
theorem dX7_squeeze_35 : decode cX7_squeeze 35 = .ok (.invokevirtual 207, 3) := by decide +kernel
theorem dX7_squeeze_38 : decode cX7_squeeze 38 = .ok (.aload_n 1, 1) := by decide +kernel
theorem dX7_squeeze_39 : decode cX7_squeeze 39 = .ok (.getfield 125, 3) := by decide +kernel
theorem dX7_squeeze_42 : decode cX7_squeeze 42 = .ok (.iconst 0, 1) := by decide +kernel
theorem dX7_squeeze_43 : decode cX7_squeeze 43 = .ok (.aaload, 1) := by decide +kernel
theorem dX7_squeeze_44 : decode cX7_squeeze 44 = .ok (.getfield 101, 3) := by decide +kernel
theorem dX7_squeeze_47 : decode cX7_squeeze 47 = .ok (.lmul, 1) := by decide +kernel
theorem dX7_squeeze_48 : decode cX7_squeeze 48 = .ok (.ldiv, 1) := by decide +kernel
theorem dX7_squeeze_49 : decode cX7_squeeze 49 = .ok (.lmul, 1) := by decide +kernel
theorem dX7_squeeze_50 : decode cX7_squeeze 50 = .ok (.lstore 6, 2) := by decide +kernel
theorem dX7_squeeze_52 : decode cX7_squeeze 52 = .ok (.aload_n 0, 1) := by decide +kernel
theorem dX7_squeeze_53 : decode cX7_squeeze 53 = .ok (.getfield 12, 3) := by decide +kernel
theorem dX7_squeeze_56 : decode cX7_squeeze 56 = .ok (.iload 5, 2) := by decide +kernel
theorem dX7_squeeze_58 : decode cX7_squeeze 58 = .ok (.lload 6, 2) := by decide +kernel
theorem dX7_squeeze_60 : decode cX7_squeeze 60 = .ok (.aload 4, 2) := by decide +kernel
theorem dX7_squeeze_62 : decode cX7_squeeze 62 = .ok (.getfield 57, 3) := by decide +kernel
theorem dX7_squeeze_65 : decode cX7_squeeze 65 = .ok (.i2l, 1) := by decide +kernel
theorem dX7_squeeze_66 : decode cX7_squeeze 66 = .ok (.aload_n 1, 1) := by decide +kernel
theorem dX7_squeeze_67 : decode cX7_squeeze 67 = .ok (.getfield 101, 3) := by decide +kernel
theorem dX7_squeeze_70 : decode cX7_squeeze 70 = .ok (.iconst 1, 1) := by decide +kernel
theorem dX7_squeeze_71 : decode cX7_squeeze 71 = .ok (.aload 4, 2) := by decide +kernel
theorem dX7_squeeze_73 : decode cX7_squeeze 73 = .ok (.getfield 78, 3) := by decide +kernel
theorem dX7_squeeze_76 : decode cX7_squeeze 76 = .ok (.invokestatic 133, 3) := by decide +kernel
theorem dX7_squeeze_79 : decode cX7_squeeze 79 = .ok (.i2l, 1) := by decide +kernel
theorem dX7_squeeze_80 : decode cX7_squeeze 80 = .ok (.ldiv, 1) := by decide +kernel
theorem dX7_squeeze_81 : decode cX7_squeeze 81 = .ok (.lmul, 1) := by decide +kernel
theorem dX7_squeeze_82 : decode cX7_squeeze 82 = .ok (.invokevirtual 162, 3) := by decide +kernel
theorem dX7_squeeze_85 : decode cX7_squeeze 85 = .ok (.return_, 1) := by decide +kernel
theorem dX7_draws_0 : decode cX7_draws 0 = .ok (.aload_n 0, 1) := by decide +kernel
theorem dX7_draws_1 : decode cX7_draws 1 = .ok (.getfield 12, 3) := by decide +kernel
theorem dX7_draws_4 : decode cX7_draws 4 = .ok (.getfield 28, 3) := by decide +kernel
theorem dX7_draws_7 : decode cX7_draws 7 = .ok (.istore 4, 2) := by decide +kernel
theorem dX7_draws_9 : decode cX7_draws 9 = .ok (.aload_n 0, 1) := by decide +kernel
theorem dX7_draws_10 : decode cX7_draws 10 = .ok (.aload_n 1, 1) := by decide +kernel
theorem dX7_draws_11 : decode cX7_draws 11 = .ok (.getfield 125, 3) := by decide +kernel
theorem dX7_draws_14 : decode cX7_draws 14 = .ok (.iconst 0, 1) := by decide +kernel
theorem dX7_draws_15 : decode cX7_draws 15 = .ok (.aaload, 1) := by decide +kernel
theorem dX7_draws_16 : decode cX7_draws 16 = .ok (.lload_n 2, 1) := by decide +kernel
theorem dX7_draws_17 : decode cX7_draws 17 = .ok (.invokevirtual 31, 3) := by decide +kernel
theorem dX7_draws_20 : decode cX7_draws 20 = .ok (.aload_n 1, 1) := by decide +kernel
theorem dX7_draws_21 : decode cX7_draws 21 = .ok (.getfield 41, 3) := by decide +kernel
theorem dX7_draws_24 : decode cX7_draws 24 = .ok (.getfield 45, 3) := by decide +kernel
theorem dX7_draws_27 : decode cX7_draws 27 = .ok (.bipush 23, 2) := by decide +kernel
theorem dX7_draws_29 : decode cX7_draws 29 = .ok (.if_icmp .ne 7, 3) := by decide +kernel
theorem dX7_draws_32 : decode cX7_draws 32 = .ok (.iconst 1, 1) := by decide +kernel
theorem dX7_draws_33 : decode cX7_draws 33 = .ok (.goto 4, 3) := by decide +kernel
theorem dX7_draws_36 : decode cX7_draws 36 = .ok (.iconst 0, 1) := by decide +kernel
theorem dX7_draws_37 : decode cX7_draws 37 = .ok (.istore 5, 2) := by decide +kernel
theorem dX7_draws_39 : decode cX7_draws 39 = .ok (.iload 4, 2) := by decide +kernel
theorem dX7_draws_41 : decode cX7_draws 41 = .ok (.istore 6, 2) := by decide +kernel
theorem dX7_draws_43 : decode cX7_draws 43 = .ok (.iload 6, 2) := by decide +kernel
theorem dX7_draws_45 : decode cX7_draws 45 = .ok (.aload_n 0, 1) := by decide +kernel
theorem dX7_draws_46 : decode cX7_draws 46 = .ok (.getfield 12, 3) := by decide +kernel
theorem dX7_draws_49 : decode cX7_draws 49 = .ok (.getfield 28, 3) := by decide +kernel
theorem dX7_draws_52 : decode cX7_draws 52 = .ok (.if_icmp .ge 74, 3) := by decide +kernel
theorem dX7_draws_55 : decode cX7_draws 55 = .ok (.aload_n 0, 1) := by decide +kernel
theorem dX7_draws_56 : decode cX7_draws 56 = .ok (.lload_n 2, 1) := by decide +kernel
theorem dX7_draws_57 : decode cX7_draws 57 = .ok (.aload_n 0, 1) := by decide +kernel
theorem dX7_draws_58 : decode cX7_draws 58 = .ok (.getfield 12, 3) := by decide +kernel
theorem dX7_draws_61 : decode cX7_draws 61 = .ok (.getfield 148, 3) := by decide +kernel
theorem dX7_draws_64 : decode cX7_draws 64 = .ok (.iload 6, 2) := by decide +kernel
theorem dX7_draws_66 : decode cX7_draws 66 = .ok (.laload, 1) := by decide +kernel
theorem dX7_draws_67 : decode cX7_draws 67 = .ok (.aload_n 1, 1) := by decide +kernel
theorem dX7_draws_68 : decode cX7_draws 68 = .ok (.getfield 101, 3) := by decide +kernel
theorem dX7_draws_71 : decode cX7_draws 71 = .ok (.aload_n 1, 1) := by decide +kernel
theorem dX7_draws_72 : decode cX7_draws 72 = .ok (.getfield 41, 3) := by decide +kernel
theorem dX7_draws_75 : decode cX7_draws 75 = .ok (.getfield 78, 3) := by decide +kernel
theorem dX7_draws_78 : decode cX7_draws 78 = .ok (.invokevirtual 210, 3) := by decide +kernel
theorem dX7_draws_81 : decode cX7_draws 81 = .ok (.aload_n 1, 1) := by decide +kernel
theorem dX7_draws_82 : decode cX7_draws 82 = .ok (.getfield 41, 3) := by decide +kernel
theorem dX7_draws_85 : decode cX7_draws 85 = .ok (.getfield 57, 3) := by decide +kernel
theorem dX7_draws_88 : decode cX7_draws 88 = .ok (.if_icmp .ge 7, 3) := by decide +kernel
theorem dX7_draws_91 : decode cX7_draws 91 = .ok (.iconst 1, 1) := by decide +kernel
theorem dX7_draws_92 : decode cX7_draws 92 = .ok (.goto 4, 3) := by decide +kernel
theorem dX7_draws_95 : decode cX7_draws 95 = .ok (.iconst 0, 1) := by decide +kernel
theorem dX7_draws_96 : decode cX7_draws 96 = .ok (.istore 7, 2) := by decide +kernel
theorem dX7_draws_98 : decode cX7_draws 98 = .ok (.aload_n 0, 1) := by decide +kernel
theorem dX7_draws_99 : decode cX7_draws 99 = .ok (.getfield 12, 3) := by decide +kernel
theorem dX7_draws_102 : decode cX7_draws 102 = .ok (.getfield 214, 3) := by decide +kernel
theorem dX7_draws_105 : decode cX7_draws 105 = .ok (.iload 6, 2) := by decide +kernel
theorem dX7_draws_107 : decode cX7_draws 107 = .ok (.iload 7, 2) := by decide +kernel
theorem dX7_draws_109 : decode cX7_draws 109 = .ok (.iload 5, 2) := by decide +kernel
theorem dX7_draws_111 : decode cX7_draws 111 = .ok (.if_icmp .ne 7, 3) := by decide +kernel
theorem dX7_draws_114 : decode cX7_draws 114 = .ok (.iconst 1, 1) := by decide +kernel
theorem dX7_draws_115 : decode cX7_draws 115 = .ok (.goto 4, 3) := by decide +kernel
theorem dX7_draws_118 : decode cX7_draws 118 = .ok (.iconst 2, 1) := by decide +kernel
theorem dX7_draws_119 : decode cX7_draws 119 = .ok (.iastore, 1) := by decide +kernel
theorem dX7_draws_120 : decode cX7_draws 120 = .ok (.iinc 6 1, 3) := by decide +kernel
theorem dX7_draws_123 : decode cX7_draws 123 = .ok (.goto (-80), 3) := by decide +kernel
theorem dX7_draws_126 : decode cX7_draws 126 = .ok (.aload_n 0, 1) := by decide +kernel
theorem dX7_draws_127 : decode cX7_draws 127 = .ok (.getfield 12, 3) := by decide +kernel
theorem dX7_draws_130 : decode cX7_draws 130 = .ok (.iload 4, 2) := by decide +kernel
theorem dX7_draws_132 : decode cX7_draws 132 = .ok (.iconst 1, 1) := by decide +kernel
theorem dX7_draws_133 : decode cX7_draws 133 = .ok (.invokevirtual 217, 3) := by decide +kernel
theorem dX7_draws_136 : decode cX7_draws 136 = .ok (.return_, 1) := by decide +kernel
theorem dX7_draw_0 : decode cX7_draw 0 = .ok (.lload_n 3, 1) := by decide +kernel
theorem dX7_draw_1 : decode cX7_draw 1 = .ok (.lload 5, 2) := by decide +kernel
theorem dX7_draw_3 : decode cX7_draw 3 = .ok (.invokestatic 220, 3) := by decide +kernel
theorem dX7_draw_6 : decode cX7_draw 6 = .ok (.lstore 8, 2) := by decide +kernel
theorem dX7_draw_8 : decode cX7_draw 8 = .ok (.lload_n 3, 1) := by decide +kernel
theorem dX7_draw_9 : decode cX7_draw 9 = .ok (.lload 8, 2) := by decide +kernel
theorem dX7_draw_11 : decode cX7_draw 11 = .ok (.ldiv, 1) := by decide +kernel
theorem dX7_draw_12 : decode cX7_draw 12 = .ok (.lstore 10, 2) := by decide +kernel
theorem dX7_draw_14 : decode cX7_draw 14 = .ok (.lload 5, 2) := by decide +kernel
theorem dX7_draw_16 : decode cX7_draw 16 = .ok (.lload 8, 2) := by decide +kernel
theorem dX7_draw_18 : decode cX7_draw 18 = .ok (.ldiv, 1) := by decide +kernel
theorem dX7_draw_19 : decode cX7_draw 19 = .ok (.lstore 12, 2) := by decide +kernel
theorem dX7_draw_21 : decode cX7_draw 21 = .ok (.aload_n 0, 1) := by decide +kernel
theorem dX7_draw_22 : decode cX7_draw 22 = .ok (.getfield 18, 3) := by decide +kernel
theorem dX7_draw_25 : decode cX7_draw 25 = .ok (.i2l, 1) := by decide +kernel
theorem dX7_draw_26 : decode cX7_draw 26 = .ok (.ldc2_w 223, 3) := by decide +kernel
theorem dX7_draw_29 : decode cX7_draw 29 = .ok (.lload_n 1, 1) := by decide +kernel
theorem dX7_draw_30 : decode cX7_draw 30 = .ok (.lmul, 1) := by decide +kernel
theorem dX7_draw_31 : decode cX7_draw 31 = .ok (.ladd, 1) := by decide +kernel
theorem dX7_draw_32 : decode cX7_draw 32 = .ok (.ldc2_w 225, 3) := by decide +kernel
theorem dX7_draw_35 : decode cX7_draw 35 = .ok (.lload 10, 2) := by decide +kernel
theorem dX7_draw_37 : decode cX7_draw 37 = .ok (.lmul, 1) := by decide +kernel
theorem dX7_draw_38 : decode cX7_draw 38 = .ok (.ladd, 1) := by decide +kernel
theorem dX7_draw_39 : decode cX7_draw 39 = .ok (.ldc2_w 227, 3) := by decide +kernel
theorem dX7_draw_42 : decode cX7_draw 42 = .ok (.lload 12, 2) := by decide +kernel
theorem dX7_draw_44 : decode cX7_draw 44 = .ok (.lmul, 1) := by decide +kernel
theorem dX7_draw_45 : decode cX7_draw 45 = .ok (.ladd, 1) := by decide +kernel
theorem dX7_draw_46 : decode cX7_draw 46 = .ok (.iload 7, 2) := by decide +kernel
theorem dX7_draw_48 : decode cX7_draw 48 = .ok (.i2l, 1) := by decide +kernel
theorem dX7_draw_49 : decode cX7_draw 49 = .ok (.ladd, 1) := by decide +kernel
theorem dX7_draw_50 : decode cX7_draw 50 = .ok (.l2i, 1) := by decide +kernel
theorem dX7_draw_51 : decode cX7_draw 51 = .ok (.istore 14, 2) := by decide +kernel
theorem dX7_draw_53 : decode cX7_draw 53 = .ok (.iload 14, 2) := by decide +kernel
theorem dX7_draw_55 : decode cX7_draw 55 = .ok (.iload 14, 2) := by decide +kernel
theorem dX7_draw_57 : decode cX7_draw 57 = .ok (.bipush 15, 2) := by decide +kernel
theorem dX7_draw_59 : decode cX7_draw 59 = .ok (.iushr, 1) := by decide +kernel
theorem dX7_draw_60 : decode cX7_draw 60 = .ok (.ixor, 1) := by decide +kernel
theorem dX7_draw_61 : decode cX7_draw 61 = .ok (.istore 14, 2) := by decide +kernel
theorem dX7_draw_63 : decode cX7_draw 63 = .ok (.iload 14, 2) := by decide +kernel
theorem dX7_draw_65 : decode cX7_draw 65 = .ok (.ldc 229, 2) := by decide +kernel
theorem dX7_draw_67 : decode cX7_draw 67 = .ok (.imul, 1) := by decide +kernel
theorem dX7_draw_68 : decode cX7_draw 68 = .ok (.istore 14, 2) := by decide +kernel
theorem dX7_draw_70 : decode cX7_draw 70 = .ok (.iload 14, 2) := by decide +kernel
theorem dX7_draw_72 : decode cX7_draw 72 = .ok (.iload 14, 2) := by decide +kernel
theorem dX7_draw_74 : decode cX7_draw 74 = .ok (.bipush 13, 2) := by decide +kernel
theorem dX7_draw_76 : decode cX7_draw 76 = .ok (.iushr, 1) := by decide +kernel
theorem dX7_draw_77 : decode cX7_draw 77 = .ok (.ixor, 1) := by decide +kernel
theorem dX7_draw_78 : decode cX7_draw 78 = .ok (.istore 14, 2) := by decide +kernel
theorem dX7_draw_80 : decode cX7_draw 80 = .ok (.iload 14, 2) := by decide +kernel
theorem dX7_draw_82 : decode cX7_draw 82 = .ok (.ldc 230, 2) := by decide +kernel
theorem dX7_draw_84 : decode cX7_draw 84 = .ok (.iand, 1) := by decide +kernel
theorem dX7_draw_85 : decode cX7_draw 85 = .ok (.sipush 1000, 3) := by decide +kernel
theorem dX7_draw_88 : decode cX7_draw 88 = .ok (.irem, 1) := by decide +kernel
theorem dX7_draw_89 : decode cX7_draw 89 = .ok (.ireturn, 1) := by decide +kernel
theorem dX7_meet_0 : decode cX7_meet 0 = .ok (.aload_n 1, 1) := by decide +kernel
theorem dX7_meet_1 : decode cX7_meet 1 = .ok (.getfield 41, 3) := by decide +kernel
theorem dX7_meet_4 : decode cX7_meet 4 = .ok (.getfield 45, 3) := by decide +kernel
theorem dX7_meet_7 : decode cX7_meet 7 = .ok (.istore 6, 2) := by decide +kernel
theorem dX7_meet_9 : decode cX7_meet 9 = .ok (.aload_n 0, 1) := by decide +kernel
theorem dX7_meet_10 : decode cX7_meet 10 = .ok (.getfield 12, 3) := by decide +kernel
theorem dX7_meet_13 : decode cX7_meet 13 = .ok (.getfield 28, 3) := by decide +kernel
theorem dX7_meet_16 : decode cX7_meet 16 = .ok (.istore 7, 2) := by decide +kernel
theorem dX7_meet_18 : decode cX7_meet 18 = .ok (.aload_n 0, 1) := by decide +kernel
theorem dX7_meet_19 : decode cX7_meet 19 = .ok (.aload 4, 2) := by decide +kernel
theorem dX7_meet_21 : decode cX7_meet 21 = .ok (.lload_n 2, 1) := by decide +kernel
theorem dX7_meet_22 : decode cX7_meet 22 = .ok (.invokevirtual 31, 3) := by decide +kernel
theorem dX7_meet_25 : decode cX7_meet 25 = .ok (.iload 7, 2) := by decide +kernel
theorem dX7_meet_27 : decode cX7_meet 27 = .ok (.istore 8, 2) := by decide +kernel
theorem dX7_meet_29 : decode cX7_meet 29 = .ok (.iload 8, 2) := by decide +kernel
theorem dX7_meet_31 : decode cX7_meet 31 = .ok (.aload_n 0, 1) := by decide +kernel
theorem dX7_meet_32 : decode cX7_meet 32 = .ok (.getfield 12, 3) := by decide +kernel
theorem dX7_meet_35 : decode cX7_meet 35 = .ok (.getfield 28, 3) := by decide +kernel
theorem dX7_meet_38 : decode cX7_meet 38 = .ok (.if_icmp .ge 43, 3) := by decide +kernel
theorem dX7_meet_41 : decode cX7_meet 41 = .ok (.aload_n 0, 1) := by decide +kernel
theorem dX7_meet_42 : decode cX7_meet 42 = .ok (.getfield 12, 3) := by decide +kernel
theorem dX7_meet_45 : decode cX7_meet 45 = .ok (.getfield 214, 3) := by decide +kernel
theorem dX7_meet_48 : decode cX7_meet 48 = .ok (.iload 8, 2) := by decide +kernel
theorem dX7_meet_50 : decode cX7_meet 50 = .ok (.iload 6, 2) := by decide +kernel
theorem dX7_meet_52 : decode cX7_meet 52 = .ok (.bipush 19, 2) := by decide +kernel
theorem dX7_meet_54 : decode cX7_meet 54 = .ok (.if_icmp .ne 19, 3) := by decide +kernel
theorem dX7_meet_57 : decode cX7_meet 57 = .ok (.aload_n 0, 1) := by decide +kernel
theorem dX7_meet_58 : decode cX7_meet 58 = .ok (.getfield 12, 3) := by decide +kernel
theorem dX7_meet_61 : decode cX7_meet 61 = .ok (.iload 8, 2) := by decide +kernel
theorem dX7_meet_63 : decode cX7_meet 63 = .ok (.invokevirtual 231, 3) := by decide +kernel
theorem dX7_meet_66 : decode cX7_meet 66 = .ok (.ifCond .ne 7, 3) := by decide +kernel
theorem dX7_meet_69 : decode cX7_meet 69 = .ok (.iconst 2, 1) := by decide +kernel
theorem dX7_meet_70 : decode cX7_meet 70 = .ok (.goto 4, 3) := by decide +kernel
theorem dX7_meet_73 : decode cX7_meet 73 = .ok (.iconst 0, 1) := by decide +kernel
theorem dX7_meet_74 : decode cX7_meet 74 = .ok (.iastore, 1) := by decide +kernel
theorem dX7_meet_75 : decode cX7_meet 75 = .ok (.iinc 8 1, 3) := by decide +kernel
theorem dX7_meet_78 : decode cX7_meet 78 = .ok (.goto (-49), 3) := by decide +kernel
theorem dX7_meet_81 : decode cX7_meet 81 = .ok (.iload 6, 2) := by decide +kernel
theorem dX7_meet_83 : decode cX7_meet 83 = .ok (.bipush 19, 2) := by decide +kernel
theorem dX7_meet_85 : decode cX7_meet 85 = .ok (.if_icmp .ne 13, 3) := by decide +kernel
theorem dX7_meet_88 : decode cX7_meet 88 = .ok (.aload_n 0, 1) := by decide +kernel
theorem dX7_meet_89 : decode cX7_meet 89 = .ok (.getfield 12, 3) := by decide +kernel
theorem dX7_meet_92 : decode cX7_meet 92 = .ok (.iload 7, 2) := by decide +kernel
theorem dX7_meet_94 : decode cX7_meet 94 = .ok (.iconst 0, 1) := by decide +kernel
theorem dX7_meet_95 : decode cX7_meet 95 = .ok (.invokevirtual 217, 3) := by decide +kernel
theorem dX7_meet_98 : decode cX7_meet 98 = .ok (.aload_n 0, 1) := by decide +kernel
theorem dX7_meet_99 : decode cX7_meet 99 = .ok (.getfield 12, 3) := by decide +kernel
theorem dX7_meet_102 : decode cX7_meet 102 = .ok (.getfield 28, 3) := by decide +kernel
theorem dX7_meet_105 : decode cX7_meet 105 = .ok (.istore 8, 2) := by decide +kernel
theorem dX7_meet_107 : decode cX7_meet 107 = .ok (.iload 8, 2) := by decide +kernel
theorem dX7_meet_109 : decode cX7_meet 109 = .ok (.iload 7, 2) := by decide +kernel
theorem dX7_meet_111 : decode cX7_meet 111 = .ok (.isub, 1) := by decide +kernel
theorem dX7_meet_112 : decode cX7_meet 112 = .ok (.istore 9, 2) := by decide +kernel
theorem dX7_meet_114 : decode cX7_meet 114 = .ok (.lload_n 2, 1) := by decide +kernel
theorem dX7_meet_115 : decode cX7_meet 115 = .ok (.lstore 10, 2) := by decide +kernel
theorem dX7_meet_117 : decode cX7_meet 117 = .ok (.lload 10, 2) := by decide +kernel
theorem dX7_meet_119 : decode cX7_meet 119 = .ok (.lload_n 2, 1) := by decide +kernel
theorem dX7_meet_120 : decode cX7_meet 120 = .ok (.aload 5, 2) := by decide +kernel
theorem dX7_meet_122 : decode cX7_meet 122 = .ok (.getfield 181, 3) := by decide +kernel
theorem dX7_meet_125 : decode cX7_meet 125 = .ok (.lsub, 1) := by decide +kernel
theorem dX7_meet_126 : decode cX7_meet 126 = .ok (.lcmp, 1) := by decide +kernel
theorem dX7_meet_127 : decode cX7_meet 127 = .ok (.ifCond .lt 71, 3) := by decide +kernel
theorem dX7_meet_130 : decode cX7_meet 130 = .ok (.iload 9, 2) := by decide +kernel
theorem dX7_meet_132 : decode cX7_meet 132 = .ok (.ifCond .le 66, 3) := by decide +kernel
theorem dX7_meet_135 : decode cX7_meet 135 = .ok (.aload_n 0, 1) := by decide +kernel
theorem dX7_meet_136 : decode cX7_meet 136 = .ok (.aload 5, 2) := by decide +kernel
theorem dX7_meet_138 : decode cX7_meet 138 = .ok (.lload 10, 2) := by decide +kernel
theorem dX7_meet_140 : decode cX7_meet 140 = .ok (.invokevirtual 31, 3) := by decide +kernel
theorem dX7_meet_143 : decode cX7_meet 143 = .ok (.iload 9, 2) := by decide +kernel
theorem dX7_meet_145 : decode cX7_meet 145 = .ok (.aload_n 0, 1) := by decide +kernel
theorem dX7_meet_146 : decode cX7_meet 146 = .ok (.aload_n 1, 1) := by decide +kernel
theorem dX7_meet_147 : decode cX7_meet 147 = .ok (.getfield 41, 3) := by decide +kernel
theorem dX7_meet_150 : decode cX7_meet 150 = .ok (.iload 7, 2) := by decide +kernel
theorem dX7_meet_152 : decode cX7_meet 152 = .ok (.iload 8, 2) := by decide +kernel
theorem dX7_meet_154 : decode cX7_meet 154 = .ok (.aload 4, 2) := by decide +kernel
theorem dX7_meet_156 : decode cX7_meet 156 = .ok (.getfield 101, 3) := by decide +kernel
theorem dX7_meet_159 : decode cX7_meet 159 = .ok (.aload 5, 2) := by decide +kernel
theorem dX7_meet_161 : decode cX7_meet 161 = .ok (.getfield 101, 3) := by decide +kernel
theorem dX7_meet_164 : decode cX7_meet 164 = .ok (.lload 10, 2) := by decide +kernel
theorem dX7_meet_166 : decode cX7_meet 166 = .ok (.lload_n 2, 1) := by decide +kernel
theorem dX7_meet_167 : decode cX7_meet 167 = .ok (.lsub, 1) := by decide +kernel
theorem dX7_meet_168 : decode cX7_meet 168 = .ok (.aload 5, 2) := by decide +kernel
theorem dX7_meet_170 : decode cX7_meet 170 = .ok (.getfield 101, 3) := by decide +kernel
theorem dX7_meet_173 : decode cX7_meet 173 = .ok (.lmul, 1) := by decide +kernel
theorem dX7_meet_174 : decode cX7_meet 174 = .ok (.invokevirtual 235, 3) := by decide +kernel
theorem dX7_meet_177 : decode cX7_meet 177 = .ok (.isub, 1) := by decide +kernel
theorem dX7_meet_178 : decode cX7_meet 178 = .ok (.istore 9, 2) := by decide +kernel
theorem dX7_meet_180 : decode cX7_meet 180 = .ok (.aload_n 0, 1) := by decide +kernel
theorem dX7_meet_181 : decode cX7_meet 181 = .ok (.getfield 12, 3) := by decide +kernel
theorem dX7_meet_184 : decode cX7_meet 184 = .ok (.iload 8, 2) := by decide +kernel
theorem dX7_meet_186 : decode cX7_meet 186 = .ok (.putfield 28, 3) := by decide +kernel
theorem dX7_meet_189 : decode cX7_meet 189 = .ok (.lload 10, 2) := by decide +kernel
theorem dX7_meet_191 : decode cX7_meet 191 = .ok (.lconst 1, 1) := by decide +kernel
theorem dX7_meet_192 : decode cX7_meet 192 = .ok (.lsub, 1) := by decide +kernel
theorem dX7_meet_193 : decode cX7_meet 193 = .ok (.lstore 10, 2) := by decide +kernel
theorem dX7_meet_195 : decode cX7_meet 195 = .ok (.goto (-78), 3) := by decide +kernel
theorem dX7_meet_198 : decode cX7_meet 198 = .ok (.iload 6, 2) := by decide +kernel
theorem dX7_meet_200 : decode cX7_meet 200 = .ok (.bipush 21, 2) := by decide +kernel
theorem dX7_meet_202 : decode cX7_meet 202 = .ok (.if_icmp .eq 13, 3) := by decide +kernel
theorem dX7_meet_205 : decode cX7_meet 205 = .ok (.aload_n 0, 1) := by decide +kernel
theorem dX7_meet_206 : decode cX7_meet 206 = .ok (.getfield 12, 3) := by decide +kernel
theorem dX7_meet_209 : decode cX7_meet 209 = .ok (.iload 7, 2) := by decide +kernel
theorem dX7_meet_211 : decode cX7_meet 211 = .ok (.iconst 1, 1) := by decide +kernel
theorem dX7_meet_212 : decode cX7_meet 212 = .ok (.invokevirtual 217, 3) := by decide +kernel
theorem dX7_meet_215 : decode cX7_meet 215 = .ok (.return_, 1) := by decide +kernel
theorem dX7_meetRow_0 : decode cX7_meetRow 0 = .ok (.iconst 0, 1) := by decide +kernel
theorem dX7_meetRow_1 : decode cX7_meetRow 1 = .ok (.istore 10, 2) := by decide +kernel
theorem dX7_meetRow_3 : decode cX7_meetRow 3 = .ok (.iload_n 3, 1) := by decide +kernel
theorem dX7_meetRow_4 : decode cX7_meetRow 4 = .ok (.istore 11, 2) := by decide +kernel
theorem dX7_meetRow_6 : decode cX7_meetRow 6 = .ok (.iload_n 2, 1) := by decide +kernel
theorem dX7_meetRow_7 : decode cX7_meetRow 7 = .ok (.istore 12, 2) := by decide +kernel
theorem dX7_meetRow_9 : decode cX7_meetRow 9 = .ok (.iload 12, 2) := by decide +kernel
theorem dX7_meetRow_11 : decode cX7_meetRow 11 = .ok (.iload_n 3, 1) := by decide +kernel
theorem dX7_meetRow_12 : decode cX7_meetRow 12 = .ok (.if_icmp .ge 149, 3) := by decide +kernel
theorem dX7_meetRow_15 : decode cX7_meetRow 15 = .ok (.aload_n 0, 1) := by decide +kernel
theorem dX7_meetRow_16 : decode cX7_meetRow 16 = .ok (.getfield 12, 3) := by decide +kernel
theorem dX7_meetRow_19 : decode cX7_meetRow 19 = .ok (.getfield 214, 3) := by decide +kernel
theorem dX7_meetRow_22 : decode cX7_meetRow 22 = .ok (.iload 12, 2) := by decide +kernel
theorem dX7_meetRow_24 : decode cX7_meetRow 24 = .ok (.iaload, 1) := by decide +kernel
theorem dX7_meetRow_25 : decode cX7_meetRow 25 = .ok (.ifCond .eq 6, 3) := by decide +kernel
theorem dX7_meetRow_28 : decode cX7_meetRow 28 = .ok (.goto 127, 3) := by decide +kernel
theorem dX7_meetRow_31 : decode cX7_meetRow 31 = .ok (.aload_n 0, 1) := by decide +kernel
theorem dX7_meetRow_32 : decode cX7_meetRow 32 = .ok (.getfield 12, 3) := by decide +kernel
theorem dX7_meetRow_35 : decode cX7_meetRow 35 = .ok (.getfield 148, 3) := by decide +kernel
theorem dX7_meetRow_38 : decode cX7_meetRow 38 = .ok (.iload 12, 2) := by decide +kernel
theorem dX7_meetRow_40 : decode cX7_meetRow 40 = .ok (.laload, 1) := by decide +kernel
theorem dX7_meetRow_41 : decode cX7_meetRow 41 = .ok (.lload 6, 2) := by decide +kernel
theorem dX7_meetRow_43 : decode cX7_meetRow 43 = .ok (.lmul, 1) := by decide +kernel
theorem dX7_meetRow_44 : decode cX7_meetRow 44 = .ok (.lstore 13, 2) := by decide +kernel
theorem dX7_meetRow_46 : decode cX7_meetRow 46 = .ok (.iload 11, 2) := by decide +kernel
theorem dX7_meetRow_48 : decode cX7_meetRow 48 = .ok (.aload_n 0, 1) := by decide +kernel
theorem dX7_meetRow_49 : decode cX7_meetRow 49 = .ok (.getfield 12, 3) := by decide +kernel
theorem dX7_meetRow_52 : decode cX7_meetRow 52 = .ok (.getfield 28, 3) := by decide +kernel
theorem dX7_meetRow_55 : decode cX7_meetRow 55 = .ok (.if_icmp .ge 31, 3) := by decide +kernel
theorem dX7_meetRow_58 : decode cX7_meetRow 58 = .ok (.aload_n 0, 1) := by decide +kernel
theorem dX7_meetRow_59 : decode cX7_meetRow 59 = .ok (.getfield 12, 3) := by decide +kernel
theorem dX7_meetRow_62 : decode cX7_meetRow 62 = .ok (.getfield 148, 3) := by decide +kernel
theorem dX7_meetRow_65 : decode cX7_meetRow 65 = .ok (.iload 11, 2) := by decide +kernel
theorem dX7_meetRow_67 : decode cX7_meetRow 67 = .ok (.laload, 1) := by decide +kernel
theorem dX7_meetRow_68 : decode cX7_meetRow 68 = .ok (.lload 8, 2) := by decide +kernel
theorem dX7_meetRow_70 : decode cX7_meetRow 70 = .ok (.ladd, 1) := by decide +kernel
theorem dX7_meetRow_71 : decode cX7_meetRow 71 = .ok (.lload 4, 2) := by decide +kernel
theorem dX7_meetRow_73 : decode cX7_meetRow 73 = .ok (.lmul, 1) := by decide +kernel
theorem dX7_meetRow_74 : decode cX7_meetRow 74 = .ok (.lload 13, 2) := by decide +kernel
theorem dX7_meetRow_76 : decode cX7_meetRow 76 = .ok (.lcmp, 1) := by decide +kernel
theorem dX7_meetRow_77 : decode cX7_meetRow 77 = .ok (.ifCond .gt 9, 3) := by decide +kernel
theorem dX7_meetRow_80 : decode cX7_meetRow 80 = .ok (.iinc 11 1, 3) := by decide +kernel
theorem dX7_meetRow_83 : decode cX7_meetRow 83 = .ok (.goto (-37), 3) := by decide +kernel
theorem dX7_meetRow_86 : decode cX7_meetRow 86 = .ok (.iload 11, 2) := by decide +kernel
theorem dX7_meetRow_88 : decode cX7_meetRow 88 = .ok (.iconst 1, 1) := by decide +kernel
theorem dX7_meetRow_89 : decode cX7_meetRow 89 = .ok (.isub, 1) := by decide +kernel
theorem dX7_meetRow_90 : decode cX7_meetRow 90 = .ok (.istore 15, 2) := by decide +kernel
theorem dX7_meetRow_92 : decode cX7_meetRow 92 = .ok (.iload 15, 2) := by decide +kernel
theorem dX7_meetRow_94 : decode cX7_meetRow 94 = .ok (.iload_n 3, 1) := by decide +kernel
theorem dX7_meetRow_95 : decode cX7_meetRow 95 = .ok (.if_icmp .lt 42, 3) := by decide +kernel
theorem dX7_meetRow_98 : decode cX7_meetRow 98 = .ok (.aload_n 0, 1) := by decide +kernel
theorem dX7_meetRow_99 : decode cX7_meetRow 99 = .ok (.getfield 12, 3) := by decide +kernel
theorem dX7_meetRow_102 : decode cX7_meetRow 102 = .ok (.getfield 148, 3) := by decide +kernel
theorem dX7_meetRow_105 : decode cX7_meetRow 105 = .ok (.iload 15, 2) := by decide +kernel
theorem dX7_meetRow_107 : decode cX7_meetRow 107 = .ok (.laload, 1) := by decide +kernel
theorem dX7_meetRow_108 : decode cX7_meetRow 108 = .ok (.aload_n 0, 1) := by decide +kernel
theorem dX7_meetRow_109 : decode cX7_meetRow 109 = .ok (.getfield 12, 3) := by decide +kernel
theorem dX7_meetRow_112 : decode cX7_meetRow 112 = .ok (.getfield 152, 3) := by decide +kernel
theorem dX7_meetRow_115 : decode cX7_meetRow 115 = .ok (.iload 15, 2) := by decide +kernel
theorem dX7_meetRow_117 : decode cX7_meetRow 117 = .ok (.laload, 1) := by decide +kernel
theorem dX7_meetRow_118 : decode cX7_meetRow 118 = .ok (.ladd, 1) := by decide +kernel
theorem dX7_meetRow_119 : decode cX7_meetRow 119 = .ok (.lload 8, 2) := by decide +kernel
theorem dX7_meetRow_121 : decode cX7_meetRow 121 = .ok (.ladd, 1) := by decide +kernel
theorem dX7_meetRow_122 : decode cX7_meetRow 122 = .ok (.lload 4, 2) := by decide +kernel
theorem dX7_meetRow_124 : decode cX7_meetRow 124 = .ok (.lmul, 1) := by decide +kernel
theorem dX7_meetRow_125 : decode cX7_meetRow 125 = .ok (.lload 13, 2) := by decide +kernel
theorem dX7_meetRow_127 : decode cX7_meetRow 127 = .ok (.lcmp, 1) := by decide +kernel
theorem dX7_meetRow_128 : decode cX7_meetRow 128 = .ok (.ifCond .gt 9, 3) := by decide +kernel
theorem dX7_meetRow_131 : decode cX7_meetRow 131 = .ok (.iinc 15 (-1), 3) := by decide +kernel
theorem dX7_meetRow_134 : decode cX7_meetRow 134 = .ok (.goto (-42), 3) := by decide +kernel
theorem dX7_meetRow_137 : decode cX7_meetRow 137 = .ok (.iload 15, 2) := by decide +kernel
theorem dX7_meetRow_139 : decode cX7_meetRow 139 = .ok (.iload_n 3, 1) := by decide +kernel
theorem dX7_meetRow_140 : decode cX7_meetRow 140 = .ok (.if_icmp .lt 15, 3) := by decide +kernel
theorem dX7_meetRow_143 : decode cX7_meetRow 143 = .ok (.aload_n 0, 1) := by decide +kernel
theorem dX7_meetRow_144 : decode cX7_meetRow 144 = .ok (.aload_n 1, 1) := by decide +kernel
theorem dX7_meetRow_145 : decode cX7_meetRow 145 = .ok (.iload 12, 2) := by decide +kernel
theorem dX7_meetRow_147 : decode cX7_meetRow 147 = .ok (.iload 15, 2) := by decide +kernel
theorem dX7_meetRow_149 : decode cX7_meetRow 149 = .ok (.invokevirtual 239, 3) := by decide +kernel
theorem dX7_meetRow_152 : decode cX7_meetRow 152 = .ok (.iinc 10 1, 3) := by decide +kernel
theorem dX7_meetRow_155 : decode cX7_meetRow 155 = .ok (.iinc 12 1, 3) := by decide +kernel
theorem dX7_meetRow_158 : decode cX7_meetRow 158 = .ok (.goto (-149), 3) := by decide +kernel
theorem dX7_meetRow_161 : decode cX7_meetRow 161 = .ok (.iload 10, 2) := by decide +kernel
theorem dX7_meetRow_163 : decode cX7_meetRow 163 = .ok (.ireturn, 1) := by decide +kernel
theorem dX7_join_0 : decode cX7_join 0 = .ok (.aload_n 0, 1) := by decide +kernel
theorem dX7_join_1 : decode cX7_join 1 = .ok (.getfield 12, 3) := by decide +kernel
theorem dX7_join_4 : decode cX7_join 4 = .ok (.getfield 214, 3) := by decide +kernel
theorem dX7_join_7 : decode cX7_join 7 = .ok (.iload_n 2, 1) := by decide +kernel
theorem dX7_join_8 : decode cX7_join 8 = .ok (.aload_n 1, 1) := by decide +kernel
theorem dX7_join_9 : decode cX7_join 9 = .ok (.getfield 45, 3) := by decide +kernel
theorem dX7_join_12 : decode cX7_join 12 = .ok (.bipush 20, 2) := by decide +kernel
theorem dX7_join_14 : decode cX7_join 14 = .ok (.if_icmp .ne 18, 3) := by decide +kernel
theorem dX7_join_17 : decode cX7_join 17 = .ok (.aload_n 0, 1) := by decide +kernel
theorem dX7_join_18 : decode cX7_join 18 = .ok (.getfield 12, 3) := by decide +kernel
theorem dX7_join_21 : decode cX7_join 21 = .ok (.iload_n 3, 1) := by decide +kernel
theorem dX7_join_22 : decode cX7_join 22 = .ok (.invokevirtual 231, 3) := by decide +kernel
theorem dX7_join_25 : decode cX7_join 25 = .ok (.ifCond .ne 7, 3) := by decide +kernel
theorem dX7_join_28 : decode cX7_join 28 = .ok (.iconst 2, 1) := by decide +kernel
theorem dX7_join_29 : decode cX7_join 29 = .ok (.goto 4, 3) := by decide +kernel
theorem dX7_join_32 : decode cX7_join 32 = .ok (.iconst 1, 1) := by decide +kernel
theorem dX7_join_33 : decode cX7_join 33 = .ok (.iastore, 1) := by decide +kernel
theorem dX7_join_34 : decode cX7_join 34 = .ok (.aload_n 1, 1) := by decide +kernel
theorem dX7_join_35 : decode cX7_join 35 = .ok (.getfield 45, 3) := by decide +kernel
theorem dX7_join_38 : decode cX7_join 38 = .ok (.bipush 19, 2) := by decide +kernel
theorem dX7_join_40 : decode cX7_join 40 = .ok (.if_icmp .ne 60, 3) := by decide +kernel
theorem dX7_join_43 : decode cX7_join 43 = .ok (.aload_n 0, 1) := by decide +kernel
theorem dX7_join_44 : decode cX7_join 44 = .ok (.getfield 12, 3) := by decide +kernel
theorem dX7_join_47 : decode cX7_join 47 = .ok (.getfield 191, 3) := by decide +kernel
theorem dX7_join_50 : decode cX7_join 50 = .ok (.iload_n 2, 1) := by decide +kernel
theorem dX7_join_51 : decode cX7_join 51 = .ok (.aload_n 0, 1) := by decide +kernel
theorem dX7_join_52 : decode cX7_join 52 = .ok (.getfield 12, 3) := by decide +kernel
theorem dX7_join_55 : decode cX7_join 55 = .ok (.getfield 191, 3) := by decide +kernel
theorem dX7_join_58 : decode cX7_join 58 = .ok (.iload_n 3, 1) := by decide +kernel
theorem dX7_join_59 : decode cX7_join 59 = .ok (.laload, 1) := by decide +kernel
theorem dX7_join_60 : decode cX7_join 60 = .ok (.lastore, 1) := by decide +kernel
theorem dX7_join_61 : decode cX7_join 61 = .ok (.aload_n 0, 1) := by decide +kernel
theorem dX7_join_62 : decode cX7_join 62 = .ok (.getfield 12, 3) := by decide +kernel
theorem dX7_join_65 : decode cX7_join 65 = .ok (.getfield 193, 3) := by decide +kernel
theorem dX7_join_68 : decode cX7_join 68 = .ok (.iload_n 2, 1) := by decide +kernel
theorem dX7_join_69 : decode cX7_join 69 = .ok (.aload_n 0, 1) := by decide +kernel
theorem dX7_join_70 : decode cX7_join 70 = .ok (.getfield 12, 3) := by decide +kernel
theorem dX7_join_73 : decode cX7_join 73 = .ok (.getfield 193, 3) := by decide +kernel
theorem dX7_join_76 : decode cX7_join 76 = .ok (.iload_n 3, 1) := by decide +kernel
theorem dX7_join_77 : decode cX7_join 77 = .ok (.iaload, 1) := by decide +kernel
theorem dX7_join_78 : decode cX7_join 78 = .ok (.iastore, 1) := by decide +kernel
theorem dX7_join_79 : decode cX7_join 79 = .ok (.aload_n 0, 1) := by decide +kernel
theorem dX7_join_80 : decode cX7_join 80 = .ok (.getfield 12, 3) := by decide +kernel
theorem dX7_join_83 : decode cX7_join 83 = .ok (.getfield 196, 3) := by decide +kernel
theorem dX7_join_86 : decode cX7_join 86 = .ok (.iload_n 2, 1) := by decide +kernel
theorem dX7_join_87 : decode cX7_join 87 = .ok (.aload_n 0, 1) := by decide +kernel
theorem dX7_join_88 : decode cX7_join 88 = .ok (.getfield 12, 3) := by decide +kernel
theorem dX7_join_91 : decode cX7_join 91 = .ok (.getfield 196, 3) := by decide +kernel
theorem dX7_join_94 : decode cX7_join 94 = .ok (.iload_n 3, 1) := by decide +kernel
theorem dX7_join_95 : decode cX7_join 95 = .ok (.baload, 1) := by decide +kernel
theorem dX7_join_96 : decode cX7_join 96 = .ok (.bastore, 1) := by decide +kernel
theorem dX7_join_97 : decode cX7_join 97 = .ok (.goto 97, 3) := by decide +kernel
theorem dX7_join_100 : decode cX7_join 100 = .ok (.aload_n 1, 1) := by decide +kernel
theorem dX7_join_101 : decode cX7_join 101 = .ok (.getfield 45, 3) := by decide +kernel
theorem dX7_join_104 : decode cX7_join 104 = .ok (.bipush 21, 2) := by decide +kernel
theorem dX7_join_106 : decode cX7_join 106 = .ok (.if_icmp .ne 21, 3) := by decide +kernel
theorem dX7_join_109 : decode cX7_join 109 = .ok (.aload_n 1, 1) := by decide +kernel
theorem dX7_join_110 : decode cX7_join 110 = .ok (.getfield 57, 3) := by decide +kernel
theorem dX7_join_113 : decode cX7_join 113 = .ok (.bipush 35, 2) := by decide +kernel
theorem dX7_join_115 : decode cX7_join 115 = .ok (.if_icmp .ne 12, 3) := by decide +kernel
theorem dX7_join_118 : decode cX7_join 118 = .ok (.aload_n 0, 1) := by decide +kernel
theorem dX7_join_119 : decode cX7_join 119 = .ok (.iload_n 2, 1) := by decide +kernel
theorem dX7_join_120 : decode cX7_join 120 = .ok (.iload_n 3, 1) := by decide +kernel
theorem dX7_join_121 : decode cX7_join 121 = .ok (.invokevirtual 243, 3) := by decide +kernel
theorem dX7_join_124 : decode cX7_join 124 = .ok (.goto 70, 3) := by decide +kernel
theorem dX7_join_127 : decode cX7_join 127 = .ok (.aload_n 1, 1) := by decide +kernel
theorem dX7_join_128 : decode cX7_join 128 = .ok (.getfield 45, 3) := by decide +kernel
theorem dX7_join_131 : decode cX7_join 131 = .ok (.bipush 21, 2) := by decide +kernel
theorem dX7_join_133 : decode cX7_join 133 = .ok (.if_icmp .ne 61, 3) := by decide +kernel
theorem dX7_join_136 : decode cX7_join 136 = .ok (.aload_n 0, 1) := by decide +kernel
theorem dX7_join_137 : decode cX7_join 137 = .ok (.getfield 12, 3) := by decide +kernel
theorem dX7_join_140 : decode cX7_join 140 = .ok (.getfield 196, 3) := by decide +kernel
theorem dX7_join_143 : decode cX7_join 143 = .ok (.iload_n 2, 1) := by decide +kernel
theorem dX7_join_144 : decode cX7_join 144 = .ok (.baload, 1) := by decide +kernel
theorem dX7_join_145 : decode cX7_join 145 = .ok (.ifCond .eq 49, 3) := by decide +kernel
theorem dX7_join_148 : decode cX7_join 148 = .ok (.aload_n 0, 1) := by decide +kernel
theorem dX7_join_149 : decode cX7_join 149 = .ok (.getfield 12, 3) := by decide +kernel
theorem dX7_join_152 : decode cX7_join 152 = .ok (.getfield 196, 3) := by decide +kernel
theorem dX7_join_155 : decode cX7_join 155 = .ok (.iload_n 3, 1) := by decide +kernel
theorem dX7_join_156 : decode cX7_join 156 = .ok (.baload, 1) := by decide +kernel
theorem dX7_join_157 : decode cX7_join 157 = .ok (.ifCond .eq 37, 3) := by decide +kernel
theorem dX7_join_160 : decode cX7_join 160 = .ok (.aload_n 0, 1) := by decide +kernel
theorem dX7_join_161 : decode cX7_join 161 = .ok (.getfield 12, 3) := by decide +kernel
theorem dX7_join_164 : decode cX7_join 164 = .ok (.getfield 193, 3) := by decide +kernel
theorem dX7_join_167 : decode cX7_join 167 = .ok (.iload_n 2, 1) := by decide +kernel
theorem dX7_join_168 : decode cX7_join 168 = .ok (.aload_n 1, 1) := by decide +kernel
theorem dX7_join_169 : decode cX7_join 169 = .ok (.getfield 57, 3) := by decide +kernel
theorem dX7_join_172 : decode cX7_join 172 = .ok (.aload_n 0, 1) := by decide +kernel
theorem dX7_join_173 : decode cX7_join 173 = .ok (.getfield 12, 3) := by decide +kernel
theorem dX7_join_176 : decode cX7_join 176 = .ok (.getfield 193, 3) := by decide +kernel
theorem dX7_join_179 : decode cX7_join 179 = .ok (.iload_n 2, 1) := by decide +kernel
theorem dX7_join_180 : decode cX7_join 180 = .ok (.iaload, 1) := by decide +kernel
theorem dX7_join_181 : decode cX7_join 181 = .ok (.aload_n 0, 1) := by decide +kernel
theorem dX7_join_182 : decode cX7_join 182 = .ok (.getfield 12, 3) := by decide +kernel
theorem dX7_join_185 : decode cX7_join 185 = .ok (.getfield 193, 3) := by decide +kernel
theorem dX7_join_188 : decode cX7_join 188 = .ok (.iload_n 3, 1) := by decide +kernel
theorem dX7_join_189 : decode cX7_join 189 = .ok (.iaload, 1) := by decide +kernel
theorem dX7_join_190 : decode cX7_join 190 = .ok (.invokestatic 246, 3) := by decide +kernel
theorem dX7_join_193 : decode cX7_join 193 = .ok (.iastore, 1) := by decide +kernel
theorem dX7_join_194 : decode cX7_join 194 = .ok (.return_, 1) := by decide +kernel
theorem dX7_overwrite_0 : decode cX7_overwrite 0 = .ok (.aload_n 0, 1) := by decide +kernel
theorem dX7_overwrite_1 : decode cX7_overwrite 1 = .ok (.getfield 12, 3) := by decide +kernel
theorem dX7_overwrite_4 : decode cX7_overwrite 4 = .ok (.getfield 191, 3) := by decide +kernel
theorem dX7_overwrite_7 : decode cX7_overwrite 7 = .ok (.iload_n 2, 1) := by decide +kernel
theorem dX7_overwrite_8 : decode cX7_overwrite 8 = .ok (.laload, 1) := by decide +kernel
theorem dX7_overwrite_9 : decode cX7_overwrite 9 = .ok (.lconst 0, 1) := by decide +kernel
theorem dX7_overwrite_10 : decode cX7_overwrite 10 = .ok (.lcmp, 1) := by decide +kernel
theorem dX7_overwrite_11 : decode cX7_overwrite 11 = .ok (.ifCond .eq 21, 3) := by decide +kernel
theorem dX7_overwrite_14 : decode cX7_overwrite 14 = .ok (.aload_n 0, 1) := by decide +kernel
theorem dX7_overwrite_15 : decode cX7_overwrite 15 = .ok (.getfield 12, 3) := by decide +kernel
theorem dX7_overwrite_18 : decode cX7_overwrite 18 = .ok (.getfield 191, 3) := by decide +kernel
theorem dX7_overwrite_21 : decode cX7_overwrite 21 = .ok (.iload_n 1, 1) := by decide +kernel
theorem dX7_overwrite_22 : decode cX7_overwrite 22 = .ok (.aload_n 0, 1) := by decide +kernel
theorem dX7_overwrite_23 : decode cX7_overwrite 23 = .ok (.getfield 12, 3) := by decide +kernel
theorem dX7_overwrite_26 : decode cX7_overwrite 26 = .ok (.getfield 191, 3) := by decide +kernel
theorem dX7_overwrite_29 : decode cX7_overwrite 29 = .ok (.iload_n 2, 1) := by decide +kernel
theorem dX7_overwrite_30 : decode cX7_overwrite 30 = .ok (.laload, 1) := by decide +kernel
theorem dX7_overwrite_31 : decode cX7_overwrite 31 = .ok (.lastore, 1) := by decide +kernel
theorem dX7_overwrite_32 : decode cX7_overwrite 32 = .ok (.aload_n 0, 1) := by decide +kernel
theorem dX7_overwrite_33 : decode cX7_overwrite 33 = .ok (.getfield 12, 3) := by decide +kernel
theorem dX7_overwrite_36 : decode cX7_overwrite 36 = .ok (.getfield 196, 3) := by decide +kernel
theorem dX7_overwrite_39 : decode cX7_overwrite 39 = .ok (.iload_n 2, 1) := by decide +kernel
theorem dX7_overwrite_40 : decode cX7_overwrite 40 = .ok (.baload, 1) := by decide +kernel
theorem dX7_overwrite_41 : decode cX7_overwrite 41 = .ok (.ifCond .eq 31, 3) := by decide +kernel
theorem dX7_overwrite_44 : decode cX7_overwrite 44 = .ok (.aload_n 0, 1) := by decide +kernel
theorem dX7_overwrite_45 : decode cX7_overwrite 45 = .ok (.getfield 12, 3) := by decide +kernel
theorem dX7_overwrite_48 : decode cX7_overwrite 48 = .ok (.getfield 193, 3) := by decide +kernel
theorem dX7_overwrite_51 : decode cX7_overwrite 51 = .ok (.iload_n 1, 1) := by decide +kernel
theorem dX7_overwrite_52 : decode cX7_overwrite 52 = .ok (.aload_n 0, 1) := by decide +kernel
theorem dX7_overwrite_53 : decode cX7_overwrite 53 = .ok (.getfield 12, 3) := by decide +kernel
theorem dX7_overwrite_56 : decode cX7_overwrite 56 = .ok (.getfield 193, 3) := by decide +kernel
theorem dX7_overwrite_59 : decode cX7_overwrite 59 = .ok (.iload_n 2, 1) := by decide +kernel
theorem dX7_overwrite_60 : decode cX7_overwrite 60 = .ok (.iaload, 1) := by decide +kernel
theorem dX7_overwrite_61 : decode cX7_overwrite 61 = .ok (.iastore, 1) := by decide +kernel
theorem dX7_overwrite_62 : decode cX7_overwrite 62 = .ok (.aload_n 0, 1) := by decide +kernel
theorem dX7_overwrite_63 : decode cX7_overwrite 63 = .ok (.getfield 12, 3) := by decide +kernel
theorem dX7_overwrite_66 : decode cX7_overwrite 66 = .ok (.getfield 196, 3) := by decide +kernel
theorem dX7_overwrite_69 : decode cX7_overwrite 69 = .ok (.iload_n 1, 1) := by decide +kernel
theorem dX7_overwrite_70 : decode cX7_overwrite 70 = .ok (.iconst 1, 1) := by decide +kernel
theorem dX7_overwrite_71 : decode cX7_overwrite 71 = .ok (.bastore, 1) := by decide +kernel
theorem dX7_overwrite_72 : decode cX7_overwrite 72 = .ok (.return_, 1) := by decide +kernel
theorem dX7_reckon_0 : decode cX7_reckon 0 = .ok (.iload_n 0, 1) := by decide +kernel
theorem dX7_reckon_1 : decode cX7_reckon 1 = .ok (.bipush 43, 2) := by decide +kernel
theorem dX7_reckon_3 : decode cX7_reckon 3 = .ok (.if_icmp .ne 9, 3) := by decide +kernel
theorem dX7_reckon_6 : decode cX7_reckon 6 = .ok (.iload_n 1, 1) := by decide +kernel
theorem dX7_reckon_7 : decode cX7_reckon 7 = .ok (.iload_n 2, 1) := by decide +kernel
theorem dX7_reckon_8 : decode cX7_reckon 8 = .ok (.iadd, 1) := by decide +kernel
theorem dX7_reckon_9 : decode cX7_reckon 9 = .ok (.goto 18, 3) := by decide +kernel
theorem dX7_reckon_12 : decode cX7_reckon 12 = .ok (.iload_n 0, 1) := by decide +kernel
theorem dX7_reckon_13 : decode cX7_reckon 13 = .ok (.bipush 45, 2) := by decide +kernel
theorem dX7_reckon_15 : decode cX7_reckon 15 = .ok (.if_icmp .ne 9, 3) := by decide +kernel
theorem dX7_reckon_18 : decode cX7_reckon 18 = .ok (.iload_n 1, 1) := by decide +kernel
theorem dX7_reckon_19 : decode cX7_reckon 19 = .ok (.iload_n 2, 1) := by decide +kernel
theorem dX7_reckon_20 : decode cX7_reckon 20 = .ok (.isub, 1) := by decide +kernel
theorem dX7_reckon_21 : decode cX7_reckon 21 = .ok (.goto 6, 3) := by decide +kernel
theorem dX7_reckon_24 : decode cX7_reckon 24 = .ok (.iload_n 1, 1) := by decide +kernel
theorem dX7_reckon_25 : decode cX7_reckon 25 = .ok (.iload_n 2, 1) := by decide +kernel
theorem dX7_reckon_26 : decode cX7_reckon 26 = .ok (.imul, 1) := by decide +kernel
theorem dX7_reckon_27 : decode cX7_reckon 27 = .ok (.ireturn, 1) := by decide +kernel
theorem dX8_opens_0 : decode cX8_opens 0 = .ok (.aload_n 0, 1) := by decide +kernel
theorem dX8_opens_1 : decode cX8_opens 1 = .ok (.getfield 25, 3) := by decide +kernel
theorem dX8_opens_4 : decode cX8_opens 4 = .ok (.bipush 20, 2) := by decide +kernel
theorem dX8_opens_6 : decode cX8_opens 6 = .ok (.if_icmp .lt 11, 3) := by decide +kernel
theorem dX8_opens_9 : decode cX8_opens 9 = .ok (.aload_n 0, 1) := by decide +kernel
theorem dX8_opens_10 : decode cX8_opens 10 = .ok (.iconst 4, 1) := by decide +kernel
theorem dX8_opens_11 : decode cX8_opens 11 = .ok (.iload_n 1, 1) := by decide +kernel
theorem dX8_opens_12 : decode cX8_opens 12 = .ok (.invokevirtual 50, 3) := by decide +kernel
theorem dX8_opens_15 : decode cX8_opens 15 = .ok (.iconst 0, 1) := by decide +kernel
theorem dX8_opens_16 : decode cX8_opens 16 = .ok (.ireturn, 1) := by decide +kernel
theorem dX8_opens_17 : decode cX8_opens 17 = .ok (.aload_n 0, 1) := by decide +kernel
theorem dX8_opens_18 : decode cX8_opens 18 = .ok (.dup, 1) := by decide +kernel
theorem dX8_opens_19 : decode cX8_opens 19 = .ok (.getfield 25, 3) := by decide +kernel
theorem dX8_opens_22 : decode cX8_opens 22 = .ok (.iconst 1, 1) := by decide +kernel
theorem dX8_opens_23 : decode cX8_opens 23 = .ok (.iadd, 1) := by decide +kernel
theorem dX8_opens_24 : decode cX8_opens 24 = .ok (.putfield 25, 3) := by decide +kernel
theorem dX8_opens_27 : decode cX8_opens 27 = .ok (.iconst 1, 1) := by decide +kernel
theorem dX8_opens_28 : decode cX8_opens 28 = .ok (.ireturn, 1) := by decide +kernel
theorem dX8_byteAt_12 : decode cX8_byteAt 12 = .ok (.aload_n 0, 1) := by decide +kernel
theorem dX8_byteAt_13 : decode cX8_byteAt 13 = .ok (.getfield 9, 3) := by decide +kernel
theorem dX8_byteAt_16 : decode cX8_byteAt 16 = .ok (.iload_n 1, 1) := by decide +kernel
theorem dX8_byteAt_17 : decode cX8_byteAt 17 = .ok (.baload, 1) := by decide +kernel
theorem dX8_byteAt_18 : decode cX8_byteAt 18 = .ok (.goto 4, 3) := by decide +kernel
theorem dX8_advance_19 : decode cX8_advance 19 = .ok (.aload_n 0, 1) := by decide +kernel
theorem dX8_advance_20 : decode cX8_advance 20 = .ok (.getfield 9, 3) := by decide +kernel
theorem dX8_advance_23 : decode cX8_advance 23 = .ok (.aload_n 0, 1) := by decide +kernel
theorem dX8_advance_24 : decode cX8_advance 24 = .ok (.getfield 31, 3) := by decide +kernel
theorem dX8_advance_27 : decode cX8_advance 27 = .ok (.baload, 1) := by decide +kernel
theorem dX8_advance_28 : decode cX8_advance 28 = .ok (.bipush 32, 2) := by decide +kernel
theorem dX8_advance_30 : decode cX8_advance 30 = .ok (.if_icmp .ne 16, 3) := by decide +kernel
theorem dX8_advance_33 : decode cX8_advance 33 = .ok (.aload_n 0, 1) := by decide +kernel
theorem dX8_advance_34 : decode cX8_advance 34 = .ok (.dup, 1) := by decide +kernel
theorem dX8_advance_35 : decode cX8_advance 35 = .ok (.getfield 31, 3) := by decide +kernel
theorem dX8_advance_38 : decode cX8_advance 38 = .ok (.iconst 1, 1) := by decide +kernel
theorem dX8_advance_39 : decode cX8_advance 39 = .ok (.iadd, 1) := by decide +kernel
theorem dX8_advance_40 : decode cX8_advance 40 = .ok (.putfield 31, 3) := by decide +kernel
theorem dX8_advance_43 : decode cX8_advance 43 = .ok (.goto (-35), 3) := by decide +kernel
theorem dX8_advance_93 : decode cX8_advance 93 = .ok (.iload_n 1, 1) := by decide +kernel
theorem dX8_advance_94 : decode cX8_advance 94 = .ok (.invokestatic 58, 3) := by decide +kernel
theorem dX8_advance_97 : decode cX8_advance 97 = .ok (.ifCond .eq 10, 3) := by decide +kernel
theorem dX8_advance_100 : decode cX8_advance 100 = .ok (.aload_n 0, 1) := by decide +kernel
theorem dX8_advance_101 : decode cX8_advance 101 = .ok (.invokevirtual 62, 3) := by decide +kernel
theorem dX8_advance_104 : decode cX8_advance 104 = .ok (.goto 46, 3) := by decide +kernel
theorem dX8_advance_107 : decode cX8_advance 107 = .ok (.iload_n 1, 1) := by decide +kernel
theorem dX8_advance_108 : decode cX8_advance 108 = .ok (.invokestatic 65, 3) := by decide +kernel
theorem dX8_advance_111 : decode cX8_advance 111 = .ok (.ifCond .eq 10, 3) := by decide +kernel
theorem dX8_advance_114 : decode cX8_advance 114 = .ok (.aload_n 0, 1) := by decide +kernel
theorem dX8_advance_115 : decode cX8_advance 115 = .ok (.invokevirtual 68, 3) := by decide +kernel
theorem dX8_advance_118 : decode cX8_advance 118 = .ok (.goto 32, 3) := by decide +kernel
theorem dX8_advance_121 : decode cX8_advance 121 = .ok (.iload_n 1, 1) := by decide +kernel
theorem dX8_advance_122 : decode cX8_advance 122 = .ok (.bipush 34, 2) := by decide +kernel
theorem dX8_advance_124 : decode cX8_advance 124 = .ok (.if_icmp .ne 10, 3) := by decide +kernel
theorem dX8_advance_127 : decode cX8_advance 127 = .ok (.aload_n 0, 1) := by decide +kernel
theorem dX8_advance_128 : decode cX8_advance 128 = .ok (.invokevirtual 71, 3) := by decide +kernel
theorem dX8_advance_131 : decode cX8_advance 131 = .ok (.goto 19, 3) := by decide +kernel
theorem dX8_advance_134 : decode cX8_advance 134 = .ok (.aload_n 0, 1) := by decide +kernel
theorem dX8_advance_135 : decode cX8_advance 135 = .ok (.iload_n 1, 1) := by decide +kernel
theorem dX8_advance_136 : decode cX8_advance 136 = .ok (.invokestatic 74, 3) := by decide +kernel
theorem dX8_advance_139 : decode cX8_advance 139 = .ok (.ifCond .eq 7, 3) := by decide +kernel
theorem dX8_advance_142 : decode cX8_advance 142 = .ok (.iload_n 1, 1) := by decide +kernel
theorem dX8_advance_143 : decode cX8_advance 143 = .ok (.goto 4, 3) := by decide +kernel
theorem dX8_advance_146 : decode cX8_advance 146 = .ok (.iconst 5, 1) := by decide +kernel
theorem dX8_advance_147 : decode cX8_advance 147 = .ok (.putfield 28, 3) := by decide +kernel
theorem dX8_isLetter_0 : decode cX8_isLetter 0 = .ok (.iload_n 0, 1) := by decide +kernel
theorem dX8_isLetter_1 : decode cX8_isLetter 1 = .ok (.bipush 97, 2) := by decide +kernel
theorem dX8_isLetter_3 : decode cX8_isLetter 3 = .ok (.if_icmp .lt 13, 3) := by decide +kernel
theorem dX8_isLetter_6 : decode cX8_isLetter 6 = .ok (.iload_n 0, 1) := by decide +kernel
theorem dX8_isLetter_7 : decode cX8_isLetter 7 = .ok (.bipush 122, 2) := by decide +kernel
theorem dX8_isLetter_9 : decode cX8_isLetter 9 = .ok (.if_icmp .gt 7, 3) := by decide +kernel
theorem dX8_isLetter_12 : decode cX8_isLetter 12 = .ok (.iconst 1, 1) := by decide +kernel
theorem dX8_isLetter_13 : decode cX8_isLetter 13 = .ok (.goto 4, 3) := by decide +kernel
theorem dX8_isLetter_16 : decode cX8_isLetter 16 = .ok (.iconst 0, 1) := by decide +kernel
theorem dX8_isLetter_17 : decode cX8_isLetter 17 = .ok (.ireturn, 1) := by decide +kernel
theorem dX8_isOp_0 : decode cX8_isOp 0 = .ok (.iload_n 0, 1) := by decide +kernel
theorem dX8_isOp_1 : decode cX8_isOp 1 = .ok (.bipush 35, 2) := by decide +kernel
theorem dX8_isOp_3 : decode cX8_isOp 3 = .ok (.if_icmp .eq 21, 3) := by decide +kernel
theorem dX8_isOp_6 : decode cX8_isOp 6 = .ok (.iload_n 0, 1) := by decide +kernel
theorem dX8_isOp_7 : decode cX8_isOp 7 = .ok (.bipush 43, 2) := by decide +kernel
theorem dX8_isOp_9 : decode cX8_isOp 9 = .ok (.if_icmp .eq 15, 3) := by decide +kernel
theorem dX8_isOp_12 : decode cX8_isOp 12 = .ok (.iload_n 0, 1) := by decide +kernel
theorem dX8_isOp_13 : decode cX8_isOp 13 = .ok (.bipush 45, 2) := by decide +kernel
theorem dX8_isOp_15 : decode cX8_isOp 15 = .ok (.if_icmp .eq 9, 3) := by decide +kernel
theorem dX8_isOp_18 : decode cX8_isOp 18 = .ok (.iload_n 0, 1) := by decide +kernel
theorem dX8_isOp_19 : decode cX8_isOp 19 = .ok (.bipush 42, 2) := by decide +kernel
theorem dX8_isOp_21 : decode cX8_isOp 21 = .ok (.if_icmp .ne 7, 3) := by decide +kernel
theorem dX8_isOp_24 : decode cX8_isOp 24 = .ok (.iconst 1, 1) := by decide +kernel
theorem dX8_isOp_25 : decode cX8_isOp 25 = .ok (.goto 4, 3) := by decide +kernel
theorem dX8_isOp_28 : decode cX8_isOp 28 = .ok (.iconst 0, 1) := by decide +kernel
theorem dX8_isOp_29 : decode cX8_isOp 29 = .ok (.ireturn, 1) := by decide +kernel
theorem dX8_isSign_0 : decode cX8_isSign 0 = .ok (.iload_n 0, 1) := by decide +kernel
theorem dX8_isSign_1 : decode cX8_isSign 1 = .ok (.invokestatic 77, 3) := by decide +kernel
theorem dX8_isSign_4 : decode cX8_isSign 4 = .ok (.ifCond .ne 45, 3) := by decide +kernel
theorem dX8_isSign_7 : decode cX8_isSign 7 = .ok (.iload_n 0, 1) := by decide +kernel
theorem dX8_isSign_8 : decode cX8_isSign 8 = .ok (.bipush 40, 2) := by decide +kernel
theorem dX8_isSign_10 : decode cX8_isSign 10 = .ok (.if_icmp .eq 39, 3) := by decide +kernel
theorem dX8_isSign_13 : decode cX8_isSign 13 = .ok (.iload_n 0, 1) := by decide +kernel
theorem dX8_isSign_14 : decode cX8_isSign 14 = .ok (.bipush 41, 2) := by decide +kernel
theorem dX8_isSign_16 : decode cX8_isSign 16 = .ok (.if_icmp .eq 33, 3) := by decide +kernel
theorem dX8_isSign_19 : decode cX8_isSign 19 = .ok (.iload_n 0, 1) := by decide +kernel
theorem dX8_isSign_20 : decode cX8_isSign 20 = .ok (.bipush 38, 2) := by decide +kernel
theorem dX8_isSign_22 : decode cX8_isSign 22 = .ok (.if_icmp .eq 27, 3) := by decide +kernel
theorem dX8_isSign_25 : decode cX8_isSign 25 = .ok (.iload_n 0, 1) := by decide +kernel
theorem dX8_isSign_26 : decode cX8_isSign 26 = .ok (.bipush 59, 2) := by decide +kernel
theorem dX8_isSign_28 : decode cX8_isSign 28 = .ok (.if_icmp .eq 21, 3) := by decide +kernel
theorem dX8_isSign_31 : decode cX8_isSign 31 = .ok (.iload_n 0, 1) := by decide +kernel
theorem dX8_isSign_32 : decode cX8_isSign 32 = .ok (.bipush 46, 2) := by decide +kernel
theorem dX8_isSign_34 : decode cX8_isSign 34 = .ok (.if_icmp .eq 15, 3) := by decide +kernel
theorem dX8_isSign_37 : decode cX8_isSign 37 = .ok (.iload_n 0, 1) := by decide +kernel
theorem dX8_isSign_38 : decode cX8_isSign 38 = .ok (.bipush 61, 2) := by decide +kernel
theorem dX8_isSign_40 : decode cX8_isSign 40 = .ok (.if_icmp .eq 9, 3) := by decide +kernel
theorem dX8_isSign_43 : decode cX8_isSign 43 = .ok (.iload_n 0, 1) := by decide +kernel
theorem dX8_isSign_44 : decode cX8_isSign 44 = .ok (.bipush 10, 2) := by decide +kernel
theorem dX8_isSign_46 : decode cX8_isSign 46 = .ok (.if_icmp .ne 7, 3) := by decide +kernel
theorem dX8_isSign_49 : decode cX8_isSign 49 = .ok (.iconst 1, 1) := by decide +kernel
theorem dX8_isSign_50 : decode cX8_isSign 50 = .ok (.goto 4, 3) := by decide +kernel
theorem dX8_isSign_53 : decode cX8_isSign 53 = .ok (.iconst 0, 1) := by decide +kernel
theorem dX8_isSign_54 : decode cX8_isSign 54 = .ok (.ireturn, 1) := by decide +kernel
theorem dX8_scanName_0 : decode cX8_scanName 0 = .ok (.aload_n 0, 1) := by decide +kernel
theorem dX8_scanName_1 : decode cX8_scanName 1 = .ok (.lconst 0, 1) := by decide +kernel
theorem dX8_scanName_2 : decode cX8_scanName 2 = .ok (.putfield 37, 3) := by decide +kernel
theorem dX8_scanName_5 : decode cX8_scanName 5 = .ok (.aload_n 0, 1) := by decide +kernel
theorem dX8_scanName_6 : decode cX8_scanName 6 = .ok (.getfield 31, 3) := by decide +kernel
theorem dX8_scanName_9 : decode cX8_scanName 9 = .ok (.istore_n 1, 1) := by decide +kernel
theorem dX8_scanName_10 : decode cX8_scanName 10 = .ok (.iload_n 1, 1) := by decide +kernel
theorem dX8_scanName_11 : decode cX8_scanName 11 = .ok (.aload_n 0, 1) := by decide +kernel
theorem dX8_scanName_12 : decode cX8_scanName 12 = .ok (.getfield 15, 3) := by decide +kernel
theorem dX8_scanName_15 : decode cX8_scanName 15 = .ok (.if_icmp .ge 50, 3) := by decide +kernel
theorem dX8_scanName_18 : decode cX8_scanName 18 = .ok (.aload_n 0, 1) := by decide +kernel
theorem dX8_scanName_19 : decode cX8_scanName 19 = .ok (.getfield 9, 3) := by decide +kernel
theorem dX8_scanName_22 : decode cX8_scanName 22 = .ok (.iload_n 1, 1) := by decide +kernel
theorem dX8_scanName_23 : decode cX8_scanName 23 = .ok (.baload, 1) := by decide +kernel
theorem dX8_scanName_24 : decode cX8_scanName 24 = .ok (.invokestatic 58, 3) := by decide +kernel
theorem dX8_scanName_27 : decode cX8_scanName 27 = .ok (.ifCond .ne 15, 3) := by decide +kernel
theorem dX8_scanName_30 : decode cX8_scanName 30 = .ok (.aload_n 0, 1) := by decide +kernel
theorem dX8_scanName_31 : decode cX8_scanName 31 = .ok (.getfield 9, 3) := by decide +kernel
theorem dX8_scanName_34 : decode cX8_scanName 34 = .ok (.iload_n 1, 1) := by decide +kernel
theorem dX8_scanName_35 : decode cX8_scanName 35 = .ok (.baload, 1) := by decide +kernel
theorem dX8_scanName_36 : decode cX8_scanName 36 = .ok (.invokestatic 65, 3) := by decide +kernel
theorem dX8_scanName_39 : decode cX8_scanName 39 = .ok (.ifCond .eq 26, 3) := by decide +kernel
theorem dX8_scanName_42 : decode cX8_scanName 42 = .ok (.aload_n 0, 1) := by decide +kernel
theorem dX8_scanName_43 : decode cX8_scanName 43 = .ok (.aload_n 0, 1) := by decide +kernel
theorem dX8_scanName_44 : decode cX8_scanName 44 = .ok (.getfield 37, 3) := by decide +kernel
theorem dX8_scanName_47 : decode cX8_scanName 47 = .ok (.aload_n 0, 1) := by decide +kernel
theorem dX8_scanName_48 : decode cX8_scanName 48 = .ok (.getfield 9, 3) := by decide +kernel
theorem dX8_scanName_51 : decode cX8_scanName 51 = .ok (.iload_n 1, 1) := by decide +kernel
theorem dX8_scanName_52 : decode cX8_scanName 52 = .ok (.baload, 1) := by decide +kernel
theorem dX8_scanName_53 : decode cX8_scanName 53 = .ok (.invokestatic 82, 3) := by decide +kernel
theorem dX8_scanName_56 : decode cX8_scanName 56 = .ok (.putfield 37, 3) := by decide +kernel
theorem dX8_scanName_59 : decode cX8_scanName 59 = .ok (.iinc 1 1, 3) := by decide +kernel
theorem dX8_scanName_62 : decode cX8_scanName 62 = .ok (.goto (-52), 3) := by decide +kernel
theorem dX8_scanName_65 : decode cX8_scanName 65 = .ok (.aload_n 0, 1) := by decide +kernel
theorem dX8_scanName_66 : decode cX8_scanName 66 = .ok (.iload_n 1, 1) := by decide +kernel
theorem dX8_scanName_67 : decode cX8_scanName 67 = .ok (.putfield 34, 3) := by decide +kernel
theorem dX8_scanName_70 : decode cX8_scanName 70 = .ok (.aload_n 0, 1) := by decide +kernel
theorem dX8_scanName_71 : decode cX8_scanName 71 = .ok (.iload_n 1, 1) := by decide +kernel
theorem dX8_scanName_72 : decode cX8_scanName 72 = .ok (.aload_n 0, 1) := by decide +kernel
theorem dX8_scanName_73 : decode cX8_scanName 73 = .ok (.getfield 31, 3) := by decide +kernel
theorem dX8_scanName_76 : decode cX8_scanName 76 = .ok (.isub, 1) := by decide +kernel
theorem dX8_scanName_77 : decode cX8_scanName 77 = .ok (.bipush 12, 2) := by decide +kernel
theorem dX8_scanName_79 : decode cX8_scanName 79 = .ok (.if_icmp .le 7, 3) := by decide +kernel
theorem dX8_scanName_82 : decode cX8_scanName 82 = .ok (.iconst 5, 1) := by decide +kernel
theorem dX8_scanName_83 : decode cX8_scanName 83 = .ok (.goto 4, 3) := by decide +kernel
theorem dX8_scanName_86 : decode cX8_scanName 86 = .ok (.iconst 1, 1) := by decide +kernel
theorem dX8_scanName_87 : decode cX8_scanName 87 = .ok (.putfield 28, 3) := by decide +kernel
theorem dX8_scanName_90 : decode cX8_scanName 90 = .ok (.return_, 1) := by decide +kernel
theorem dX8_scanCount_0 : decode cX8_scanCount 0 = .ok (.aload_n 0, 1) := by decide +kernel
theorem dX8_scanCount_1 : decode cX8_scanCount 1 = .ok (.aload_n 0, 1) := by decide +kernel
theorem dX8_scanCount_2 : decode cX8_scanCount 2 = .ok (.getfield 31, 3) := by decide +kernel
theorem dX8_scanCount_5 : decode cX8_scanCount 5 = .ok (.invokevirtual 86, 3) := by decide +kernel
theorem dX8_scanCount_8 : decode cX8_scanCount 8 = .ok (.istore_n 1, 1) := by decide +kernel
theorem dX8_scanCount_9 : decode cX8_scanCount 9 = .ok (.iload_n 1, 1) := by decide +kernel
theorem dX8_scanCount_10 : decode cX8_scanCount 10 = .ok (.aload_n 0, 1) := by decide +kernel
theorem dX8_scanCount_11 : decode cX8_scanCount 11 = .ok (.getfield 31, 3) := by decide +kernel
theorem dX8_scanCount_14 : decode cX8_scanCount 14 = .ok (.isub, 1) := by decide +kernel
theorem dX8_scanCount_15 : decode cX8_scanCount 15 = .ok (.iconst 4, 1) := by decide +kernel
theorem dX8_scanCount_16 : decode cX8_scanCount 16 = .ok (.if_icmp .gt 7, 3) := by decide +kernel
theorem dX8_scanCount_19 : decode cX8_scanCount 19 = .ok (.iconst 1, 1) := by decide +kernel
theorem dX8_scanCount_20 : decode cX8_scanCount 20 = .ok (.goto 4, 3) := by decide +kernel
theorem dX8_scanCount_23 : decode cX8_scanCount 23 = .ok (.iconst 0, 1) := by decide +kernel
theorem dX8_scanCount_24 : decode cX8_scanCount 24 = .ok (.istore_n 2, 1) := by decide +kernel
theorem dX8_scanCount_25 : decode cX8_scanCount 25 = .ok (.aload_n 0, 1) := by decide +kernel
theorem dX8_scanCount_26 : decode cX8_scanCount 26 = .ok (.iload_n 2, 1) := by decide +kernel
theorem dX8_scanCount_27 : decode cX8_scanCount 27 = .ok (.ifCond .eq 15, 3) := by decide +kernel
theorem dX8_scanCount_30 : decode cX8_scanCount 30 = .ok (.aload_n 0, 1) := by decide +kernel
theorem dX8_scanCount_31 : decode cX8_scanCount 31 = .ok (.aload_n 0, 1) := by decide +kernel
theorem dX8_scanCount_32 : decode cX8_scanCount 32 = .ok (.getfield 31, 3) := by decide +kernel
theorem dX8_scanCount_35 : decode cX8_scanCount 35 = .ok (.iload_n 1, 1) := by decide +kernel
theorem dX8_scanCount_36 : decode cX8_scanCount 36 = .ok (.invokevirtual 89, 3) := by decide +kernel
theorem dX8_scanCount_39 : decode cX8_scanCount 39 = .ok (.goto 4, 3) := by decide +kernel
theorem dX8_scanCount_42 : decode cX8_scanCount 42 = .ok (.iconst 0, 1) := by decide +kernel
theorem dX8_scanCount_43 : decode cX8_scanCount 43 = .ok (.putfield 41, 3) := by decide +kernel
theorem dX8_scanCount_46 : decode cX8_scanCount 46 = .ok (.aload_n 0, 1) := by decide +kernel
theorem dX8_scanCount_47 : decode cX8_scanCount 47 = .ok (.iconst 1, 1) := by decide +kernel
theorem dX8_scanCount_48 : decode cX8_scanCount 48 = .ok (.putfield 44, 3) := by decide +kernel
theorem dX8_scanCount_51 : decode cX8_scanCount 51 = .ok (.aload_n 0, 1) := by decide +kernel
theorem dX8_scanCount_52 : decode cX8_scanCount 52 = .ok (.iload_n 1, 1) := by decide +kernel
theorem dX8_scanCount_53 : decode cX8_scanCount 53 = .ok (.putfield 34, 3) := by decide +kernel
theorem dX8_scanCount_56 : decode cX8_scanCount 56 = .ok (.aload_n 0, 1) := by decide +kernel
theorem dX8_scanCount_57 : decode cX8_scanCount 57 = .ok (.iconst 2, 1) := by decide +kernel
theorem dX8_scanCount_58 : decode cX8_scanCount 58 = .ok (.putfield 28, 3) := by decide +kernel
theorem dX8_scanCount_61 : decode cX8_scanCount 61 = .ok (.aload_n 0, 1) := by decide +kernel
theorem dX8_scanCount_62 : decode cX8_scanCount 62 = .ok (.iload_n 1, 1) := by decide +kernel
theorem dX8_scanCount_63 : decode cX8_scanCount 63 = .ok (.invokevirtual 54, 3) := by decide +kernel
theorem dX8_scanCount_66 : decode cX8_scanCount 66 = .ok (.bipush 58, 2) := by decide +kernel
theorem dX8_scanCount_68 : decode cX8_scanCount 68 = .ok (.if_icmp .ne 77, 3) := by decide +kernel
theorem dX8_scanCount_71 : decode cX8_scanCount 71 = .ok (.aload_n 0, 1) := by decide +kernel
theorem dX8_scanCount_72 : decode cX8_scanCount 72 = .ok (.iload_n 1, 1) := by decide +kernel
theorem dX8_scanCount_73 : decode cX8_scanCount 73 = .ok (.iconst 1, 1) := by decide +kernel
theorem dX8_scanCount_74 : decode cX8_scanCount 74 = .ok (.iadd, 1) := by decide +kernel
theorem dX8_scanCount_75 : decode cX8_scanCount 75 = .ok (.invokevirtual 54, 3) := by decide +kernel
theorem dX8_scanCount_78 : decode cX8_scanCount 78 = .ok (.invokestatic 65, 3) := by decide +kernel
theorem dX8_scanCount_81 : decode cX8_scanCount 81 = .ok (.ifCond .eq 64, 3) := by decide +kernel
theorem dX8_scanCount_84 : decode cX8_scanCount 84 = .ok (.aload_n 0, 1) := by decide +kernel
theorem dX8_scanCount_85 : decode cX8_scanCount 85 = .ok (.aload_n 0, 1) := by decide +kernel
theorem dX8_scanCount_86 : decode cX8_scanCount 86 = .ok (.iload_n 1, 1) := by decide +kernel
theorem dX8_scanCount_87 : decode cX8_scanCount 87 = .ok (.iconst 1, 1) := by decide +kernel
theorem dX8_scanCount_88 : decode cX8_scanCount 88 = .ok (.iadd, 1) := by decide +kernel
theorem dX8_scanCount_89 : decode cX8_scanCount 89 = .ok (.invokevirtual 86, 3) := by decide +kernel
theorem dX8_scanCount_92 : decode cX8_scanCount 92 = .ok (.putfield 34, 3) := by decide +kernel
theorem dX8_scanCount_95 : decode cX8_scanCount 95 = .ok (.iload_n 2, 1) := by decide +kernel
theorem dX8_scanCount_96 : decode cX8_scanCount 96 = .ok (.ifCond .eq 19, 3) := by decide +kernel
theorem dX8_scanCount_99 : decode cX8_scanCount 99 = .ok (.aload_n 0, 1) := by decide +kernel
theorem dX8_scanCount_100 : decode cX8_scanCount 100 = .ok (.getfield 34, 3) := by decide +kernel
theorem dX8_scanCount_103 : decode cX8_scanCount 103 = .ok (.iload_n 1, 1) := by decide +kernel
theorem dX8_scanCount_104 : decode cX8_scanCount 104 = .ok (.isub, 1) := by decide +kernel
theorem dX8_scanCount_105 : decode cX8_scanCount 105 = .ok (.iconst 1, 1) := by decide +kernel
theorem dX8_scanCount_106 : decode cX8_scanCount 106 = .ok (.isub, 1) := by decide +kernel
theorem dX8_scanCount_107 : decode cX8_scanCount 107 = .ok (.iconst 4, 1) := by decide +kernel
theorem dX8_scanCount_108 : decode cX8_scanCount 108 = .ok (.if_icmp .gt 7, 3) := by decide +kernel
theorem dX8_scanCount_111 : decode cX8_scanCount 111 = .ok (.iconst 1, 1) := by decide +kernel
theorem dX8_scanCount_112 : decode cX8_scanCount 112 = .ok (.goto 4, 3) := by decide +kernel
theorem dX8_scanCount_115 : decode cX8_scanCount 115 = .ok (.iconst 0, 1) := by decide +kernel
theorem dX8_scanCount_116 : decode cX8_scanCount 116 = .ok (.istore_n 2, 1) := by decide +kernel
theorem dX8_scanCount_117 : decode cX8_scanCount 117 = .ok (.aload_n 0, 1) := by decide +kernel
theorem dX8_scanCount_118 : decode cX8_scanCount 118 = .ok (.iload_n 2, 1) := by decide +kernel
theorem dX8_scanCount_119 : decode cX8_scanCount 119 = .ok (.ifCond .eq 17, 3) := by decide +kernel
theorem dX8_scanCount_122 : decode cX8_scanCount 122 = .ok (.aload_n 0, 1) := by decide +kernel
theorem dX8_scanCount_123 : decode cX8_scanCount 123 = .ok (.iload_n 1, 1) := by decide +kernel
theorem dX8_scanCount_124 : decode cX8_scanCount 124 = .ok (.iconst 1, 1) := by decide +kernel
theorem dX8_scanCount_125 : decode cX8_scanCount 125 = .ok (.iadd, 1) := by decide +kernel
theorem dX8_scanCount_126 : decode cX8_scanCount 126 = .ok (.aload_n 0, 1) := by decide +kernel
theorem dX8_scanCount_127 : decode cX8_scanCount 127 = .ok (.getfield 34, 3) := by decide +kernel
theorem dX8_scanCount_130 : decode cX8_scanCount 130 = .ok (.invokevirtual 89, 3) := by decide +kernel
theorem dX8_scanCount_133 : decode cX8_scanCount 133 = .ok (.goto 4, 3) := by decide +kernel
theorem dX8_scanCount_136 : decode cX8_scanCount 136 = .ok (.iconst 1, 1) := by decide +kernel
theorem dX8_scanCount_137 : decode cX8_scanCount 137 = .ok (.putfield 44, 3) := by decide +kernel
theorem dX8_scanCount_140 : decode cX8_scanCount 140 = .ok (.aload_n 0, 1) := by decide +kernel
theorem dX8_scanCount_141 : decode cX8_scanCount 141 = .ok (.iconst 3, 1) := by decide +kernel
theorem dX8_scanCount_142 : decode cX8_scanCount 142 = .ok (.putfield 28, 3) := by decide +kernel
theorem dX8_scanCount_145 : decode cX8_scanCount 145 = .ok (.iload_n 2, 1) := by decide +kernel
theorem dX8_scanCount_146 : decode cX8_scanCount 146 = .ok (.ifCond .ne 8, 3) := by decide +kernel
theorem dX8_scanCount_149 : decode cX8_scanCount 149 = .ok (.aload_n 0, 1) := by decide +kernel
theorem dX8_scanCount_150 : decode cX8_scanCount 150 = .ok (.iconst 5, 1) := by decide +kernel
theorem dX8_scanCount_151 : decode cX8_scanCount 151 = .ok (.putfield 28, 3) := by decide +kernel
theorem dX8_scanCount_154 : decode cX8_scanCount 154 = .ok (.return_, 1) := by decide +kernel
theorem dX8_digitsBehind_0 : decode cX8_digitsBehind 0 = .ok (.iload_n 1, 1) := by decide +kernel
theorem dX8_digitsBehind_1 : decode cX8_digitsBehind 1 = .ok (.istore_n 2, 1) := by decide +kernel
theorem dX8_digitsBehind_2 : decode cX8_digitsBehind 2 = .ok (.iload_n 2, 1) := by decide +kernel
theorem dX8_digitsBehind_3 : decode cX8_digitsBehind 3 = .ok (.aload_n 0, 1) := by decide +kernel
theorem dX8_digitsBehind_4 : decode cX8_digitsBehind 4 = .ok (.getfield 15, 3) := by decide +kernel
theorem dX8_digitsBehind_7 : decode cX8_digitsBehind 7 = .ok (.if_icmp .ge 21, 3) := by decide +kernel
theorem dX8_digitsBehind_10 : decode cX8_digitsBehind 10 = .ok (.aload_n 0, 1) := by decide +kernel
theorem dX8_digitsBehind_11 : decode cX8_digitsBehind 11 = .ok (.getfield 9, 3) := by decide +kernel
theorem dX8_digitsBehind_14 : decode cX8_digitsBehind 14 = .ok (.iload_n 2, 1) := by decide +kernel
theorem dX8_digitsBehind_15 : decode cX8_digitsBehind 15 = .ok (.baload, 1) := by decide +kernel
theorem dX8_digitsBehind_16 : decode cX8_digitsBehind 16 = .ok (.invokestatic 65, 3) := by decide +kernel
theorem dX8_digitsBehind_19 : decode cX8_digitsBehind 19 = .ok (.ifCond .eq 9, 3) := by decide +kernel
theorem dX8_digitsBehind_22 : decode cX8_digitsBehind 22 = .ok (.iinc 2 1, 3) := by decide +kernel
theorem dX8_digitsBehind_25 : decode cX8_digitsBehind 25 = .ok (.goto (-23), 3) := by decide +kernel
theorem dX8_digitsBehind_28 : decode cX8_digitsBehind 28 = .ok (.iload_n 2, 1) := by decide +kernel
theorem dX8_digitsBehind_29 : decode cX8_digitsBehind 29 = .ok (.ireturn, 1) := by decide +kernel
theorem dX8_valueOf_0 : decode cX8_valueOf 0 = .ok (.iconst 0, 1) := by decide +kernel
theorem dX8_valueOf_1 : decode cX8_valueOf 1 = .ok (.istore_n 3, 1) := by decide +kernel
theorem dX8_valueOf_2 : decode cX8_valueOf 2 = .ok (.iload_n 1, 1) := by decide +kernel
theorem dX8_valueOf_3 : decode cX8_valueOf 3 = .ok (.istore 4, 2) := by decide +kernel
theorem dX8_valueOf_5 : decode cX8_valueOf 5 = .ok (.iload 4, 2) := by decide +kernel
theorem dX8_valueOf_7 : decode cX8_valueOf 7 = .ok (.iload_n 2, 1) := by decide +kernel
theorem dX8_valueOf_8 : decode cX8_valueOf 8 = .ok (.if_icmp .ge 24, 3) := by decide +kernel
theorem dX8_valueOf_11 : decode cX8_valueOf 11 = .ok (.iload_n 3, 1) := by decide +kernel
theorem dX8_valueOf_12 : decode cX8_valueOf 12 = .ok (.bipush 10, 2) := by decide +kernel
theorem dX8_valueOf_14 : decode cX8_valueOf 14 = .ok (.imul, 1) := by decide +kernel
theorem dX8_valueOf_15 : decode cX8_valueOf 15 = .ok (.aload_n 0, 1) := by decide +kernel
theorem dX8_valueOf_16 : decode cX8_valueOf 16 = .ok (.iload 4, 2) := by decide +kernel
theorem dX8_valueOf_18 : decode cX8_valueOf 18 = .ok (.invokevirtual 54, 3) := by decide +kernel
theorem dX8_valueOf_21 : decode cX8_valueOf 21 = .ok (.iadd, 1) := by decide +kernel
theorem dX8_valueOf_22 : decode cX8_valueOf 22 = .ok (.bipush 48, 2) := by decide +kernel
theorem dX8_valueOf_24 : decode cX8_valueOf 24 = .ok (.isub, 1) := by decide +kernel
theorem dX8_valueOf_25 : decode cX8_valueOf 25 = .ok (.istore_n 3, 1) := by decide +kernel
theorem dX8_valueOf_26 : decode cX8_valueOf 26 = .ok (.iinc 4 1, 3) := by decide +kernel
theorem dX8_valueOf_29 : decode cX8_valueOf 29 = .ok (.goto (-24), 3) := by decide +kernel
theorem dX8_valueOf_32 : decode cX8_valueOf 32 = .ok (.iload_n 3, 1) := by decide +kernel
theorem dX8_valueOf_33 : decode cX8_valueOf 33 = .ok (.ireturn, 1) := by decide +kernel
theorem dX8_scanText_0 : decode cX8_scanText 0 = .ok (.aload_n 0, 1) := by decide +kernel
theorem dX8_scanText_1 : decode cX8_scanText 1 = .ok (.getfield 31, 3) := by decide +kernel
theorem dX8_scanText_4 : decode cX8_scanText 4 = .ok (.iconst 1, 1) := by decide +kernel
theorem dX8_scanText_5 : decode cX8_scanText 5 = .ok (.iadd, 1) := by decide +kernel
theorem dX8_scanText_6 : decode cX8_scanText 6 = .ok (.istore_n 1, 1) := by decide +kernel
theorem dX8_scanText_7 : decode cX8_scanText 7 = .ok (.iload_n 1, 1) := by decide +kernel
theorem dX8_scanText_8 : decode cX8_scanText 8 = .ok (.aload_n 0, 1) := by decide +kernel
theorem dX8_scanText_9 : decode cX8_scanText 9 = .ok (.getfield 15, 3) := by decide +kernel
theorem dX8_scanText_12 : decode cX8_scanText 12 = .ok (.if_icmp .ge 42, 3) := by decide +kernel
theorem dX8_scanText_15 : decode cX8_scanText 15 = .ok (.aload_n 0, 1) := by decide +kernel
theorem dX8_scanText_16 : decode cX8_scanText 16 = .ok (.getfield 9, 3) := by decide +kernel
theorem dX8_scanText_19 : decode cX8_scanText 19 = .ok (.iload_n 1, 1) := by decide +kernel
theorem dX8_scanText_20 : decode cX8_scanText 20 = .ok (.baload, 1) := by decide +kernel
theorem dX8_scanText_21 : decode cX8_scanText 21 = .ok (.bipush 32, 2) := by decide +kernel
theorem dX8_scanText_23 : decode cX8_scanText 23 = .ok (.if_icmp .lt 31, 3) := by decide +kernel
theorem dX8_scanText_26 : decode cX8_scanText 26 = .ok (.aload_n 0, 1) := by decide +kernel
theorem dX8_scanText_27 : decode cX8_scanText 27 = .ok (.getfield 9, 3) := by decide +kernel
theorem dX8_scanText_30 : decode cX8_scanText 30 = .ok (.iload_n 1, 1) := by decide +kernel
theorem dX8_scanText_31 : decode cX8_scanText 31 = .ok (.baload, 1) := by decide +kernel
theorem dX8_scanText_32 : decode cX8_scanText 32 = .ok (.bipush 126, 2) := by decide +kernel
theorem dX8_scanText_34 : decode cX8_scanText 34 = .ok (.if_icmp .gt 20, 3) := by decide +kernel
theorem dX8_scanText_37 : decode cX8_scanText 37 = .ok (.aload_n 0, 1) := by decide +kernel
theorem dX8_scanText_38 : decode cX8_scanText 38 = .ok (.getfield 9, 3) := by decide +kernel
theorem dX8_scanText_41 : decode cX8_scanText 41 = .ok (.iload_n 1, 1) := by decide +kernel
theorem dX8_scanText_42 : decode cX8_scanText 42 = .ok (.baload, 1) := by decide +kernel
theorem dX8_scanText_43 : decode cX8_scanText 43 = .ok (.bipush 34, 2) := by decide +kernel
theorem dX8_scanText_45 : decode cX8_scanText 45 = .ok (.if_icmp .eq 9, 3) := by decide +kernel
theorem dX8_scanText_48 : decode cX8_scanText 48 = .ok (.iinc 1 1, 3) := by decide +kernel
theorem dX8_scanText_51 : decode cX8_scanText 51 = .ok (.goto (-44), 3) := by decide +kernel
theorem dX8_scanText_54 : decode cX8_scanText 54 = .ok (.aload_n 0, 1) := by decide +kernel
theorem dX8_scanText_55 : decode cX8_scanText 55 = .ok (.iload_n 1, 1) := by decide +kernel
theorem dX8_scanText_56 : decode cX8_scanText 56 = .ok (.invokevirtual 54, 3) := by decide +kernel
theorem dX8_scanText_59 : decode cX8_scanText 59 = .ok (.bipush 34, 2) := by decide +kernel
theorem dX8_scanText_61 : decode cX8_scanText 61 = .ok (.if_icmp .ne 7, 3) := by decide +kernel
theorem dX8_scanText_64 : decode cX8_scanText 64 = .ok (.iconst 1, 1) := by decide +kernel
theorem dX8_scanText_65 : decode cX8_scanText 65 = .ok (.goto 4, 3) := by decide +kernel
theorem dX8_scanText_68 : decode cX8_scanText 68 = .ok (.iconst 0, 1) := by decide +kernel
theorem dX8_scanText_69 : decode cX8_scanText 69 = .ok (.istore_n 2, 1) := by decide +kernel
theorem dX8_scanText_70 : decode cX8_scanText 70 = .ok (.aload_n 0, 1) := by decide +kernel
theorem dX8_scanText_71 : decode cX8_scanText 71 = .ok (.iload_n 1, 1) := by decide +kernel
theorem dX8_scanText_72 : decode cX8_scanText 72 = .ok (.iconst 1, 1) := by decide +kernel
theorem dX8_scanText_73 : decode cX8_scanText 73 = .ok (.iadd, 1) := by decide +kernel
theorem dX8_scanText_74 : decode cX8_scanText 74 = .ok (.putfield 34, 3) := by decide +kernel
theorem dX8_scanText_77 : decode cX8_scanText 77 = .ok (.aload_n 0, 1) := by decide +kernel
theorem dX8_scanText_78 : decode cX8_scanText 78 = .ok (.iload_n 2, 1) := by decide +kernel
theorem dX8_scanText_79 : decode cX8_scanText 79 = .ok (.ifCond .eq 7, 3) := by decide +kernel
theorem dX8_scanText_82 : decode cX8_scanText 82 = .ok (.iconst 4, 1) := by decide +kernel
theorem dX8_scanText_83 : decode cX8_scanText 83 = .ok (.goto 4, 3) := by decide +kernel
theorem dX8_scanText_86 : decode cX8_scanText 86 = .ok (.iconst 5, 1) := by decide +kernel
theorem dX8_scanText_87 : decode cX8_scanText 87 = .ok (.putfield 28, 3) := by decide +kernel
theorem dX8_scanText_90 : decode cX8_scanText 90 = .ok (.return_, 1) := by decide +kernel
theorem dX9_init_0 : decode cX9_init 0 = .ok (.aload_n 0, 1) := by decide +kernel
theorem dX9_init_1 : decode cX9_init 1 = .ok (.invokespecial 1, 3) := by decide +kernel
theorem dX9_init_4 : decode cX9_init 4 = .ok (.aload_n 0, 1) := by decide +kernel
theorem dX9_init_5 : decode cX9_init 5 = .ok (.iconst 0, 1) := by decide +kernel
theorem dX9_init_6 : decode cX9_init 6 = .ok (.putfield 7, 3) := by decide +kernel
theorem dX9_init_9 : decode cX9_init 9 = .ok (.aload_n 0, 1) := by decide +kernel
theorem dX9_init_10 : decode cX9_init 10 = .ok (.iconst 0, 1) := by decide +kernel
theorem dX9_init_11 : decode cX9_init 11 = .ok (.putfield 13, 3) := by decide +kernel
theorem dX9_init_14 : decode cX9_init 14 = .ok (.aload_n 0, 1) := by decide +kernel
theorem dX9_init_15 : decode cX9_init 15 = .ok (.iconst 0, 1) := by decide +kernel
theorem dX9_init_16 : decode cX9_init 16 = .ok (.putfield 16, 3) := by decide +kernel
theorem dX9_init_19 : decode cX9_init 19 = .ok (.aload_n 0, 1) := by decide +kernel
theorem dX9_init_20 : decode cX9_init 20 = .ok (.iconst 0, 1) := by decide +kernel
theorem dX9_init_21 : decode cX9_init 21 = .ok (.putfield 19, 3) := by decide +kernel
theorem dX9_init_24 : decode cX9_init 24 = .ok (.aload_n 0, 1) := by decide +kernel
theorem dX9_init_25 : decode cX9_init 25 = .ok (.iconst 0, 1) := by decide +kernel
theorem dX9_init_26 : decode cX9_init 26 = .ok (.putfield 22, 3) := by decide +kernel
theorem dX9_init_29 : decode cX9_init 29 = .ok (.aload_n 0, 1) := by decide +kernel
theorem dX9_init_30 : decode cX9_init 30 = .ok (.lconst 0, 1) := by decide +kernel
theorem dX9_init_31 : decode cX9_init 31 = .ok (.putfield 26, 3) := by decide +kernel
theorem dX9_init_34 : decode cX9_init 34 = .ok (.aload_n 0, 1) := by decide +kernel
theorem dX9_init_35 : decode cX9_init 35 = .ok (.aconst_null, 1) := by decide +kernel
theorem dX9_init_36 : decode cX9_init 36 = .ok (.putfield 30, 3) := by decide +kernel
theorem dX9_init_39 : decode cX9_init 39 = .ok (.aload_n 0, 1) := by decide +kernel
theorem dX9_init_40 : decode cX9_init 40 = .ok (.iconst 0, 1) := by decide +kernel
theorem dX9_init_41 : decode cX9_init 41 = .ok (.putfield 34, 3) := by decide +kernel
theorem dX9_init_44 : decode cX9_init 44 = .ok (.aload_n 0, 1) := by decide +kernel
theorem dX9_init_45 : decode cX9_init 45 = .ok (.iconst 2, 1) := by decide +kernel
theorem dX9_init_46 : decode cX9_init 46 = .ok (.newarray .int, 2) := by decide +kernel
theorem dX9_init_48 : decode cX9_init 48 = .ok (.putfield 37, 3) := by decide +kernel
theorem dX9_init_51 : decode cX9_init 51 = .ok (.aload_n 0, 1) := by decide +kernel
theorem dX9_init_52 : decode cX9_init 52 = .ok (.aconst_null, 1) := by decide +kernel
theorem dX9_init_53 : decode cX9_init 53 = .ok (.putfield 41, 3) := by decide +kernel
theorem dX9_init_56 : decode cX9_init 56 = .ok (.aload_n 0, 1) := by decide +kernel
theorem dX9_init_57 : decode cX9_init 57 = .ok (.aconst_null, 1) := by decide +kernel
theorem dX9_init_58 : decode cX9_init 58 = .ok (.putfield 44, 3) := by decide +kernel
theorem dX9_init_61 : decode cX9_init 61 = .ok (.aload_n 0, 1) := by decide +kernel
theorem dX9_init_62 : decode cX9_init 62 = .ok (.aconst_null, 1) := by decide +kernel
theorem dX9_init_63 : decode cX9_init 63 = .ok (.putfield 47, 3) := by decide +kernel
theorem dX9_init_66 : decode cX9_init 66 = .ok (.aload_n 0, 1) := by decide +kernel
theorem dX9_init_67 : decode cX9_init 67 = .ok (.iload_n 1, 1) := by decide +kernel
theorem dX9_init_68 : decode cX9_init 68 = .ok (.putfield 50, 3) := by decide +kernel
theorem dX9_init_71 : decode cX9_init 71 = .ok (.aload_n 0, 1) := by decide +kernel
theorem dX9_init_72 : decode cX9_init 72 = .ok (.iload_n 2, 1) := by decide +kernel
theorem dX9_init_73 : decode cX9_init 73 = .ok (.putfield 53, 3) := by decide +kernel
theorem dX9_init_76 : decode cX9_init 76 = .ok (.return_, 1) := by decide +kernel
theorem dX9_init__0 : decode cX9_init_ 0 = .ok (.aload_n 0, 1) := by decide +kernel
theorem dX9_init__1 : decode cX9_init_ 1 = .ok (.invokespecial 1, 3) := by decide +kernel
theorem dX9_init__4 : decode cX9_init_ 4 = .ok (.aload_n 0, 1) := by decide +kernel
theorem dX9_init__5 : decode cX9_init_ 5 = .ok (.iconst 0, 1) := by decide +kernel
theorem dX9_init__6 : decode cX9_init_ 6 = .ok (.putfield 7, 3) := by decide +kernel
theorem dX9_init__9 : decode cX9_init_ 9 = .ok (.aload_n 0, 1) := by decide +kernel
theorem dX9_init__10 : decode cX9_init_ 10 = .ok (.iconst 0, 1) := by decide +kernel
theorem dX9_init__11 : decode cX9_init_ 11 = .ok (.putfield 13, 3) := by decide +kernel
theorem dX9_init__14 : decode cX9_init_ 14 = .ok (.aload_n 0, 1) := by decide +kernel
theorem dX9_init__15 : decode cX9_init_ 15 = .ok (.iconst 0, 1) := by decide +kernel
theorem dX9_init__16 : decode cX9_init_ 16 = .ok (.putfield 16, 3) := by decide +kernel
theorem dX9_init__19 : decode cX9_init_ 19 = .ok (.aload_n 0, 1) := by decide +kernel
theorem dX9_init__20 : decode cX9_init_ 20 = .ok (.iconst 0, 1) := by decide +kernel
theorem dX9_init__21 : decode cX9_init_ 21 = .ok (.putfield 19, 3) := by decide +kernel
theorem dX9_init__24 : decode cX9_init_ 24 = .ok (.aload_n 0, 1) := by decide +kernel
theorem dX9_init__25 : decode cX9_init_ 25 = .ok (.iconst 0, 1) := by decide +kernel
theorem dX9_init__26 : decode cX9_init_ 26 = .ok (.putfield 22, 3) := by decide +kernel
theorem dX9_init__29 : decode cX9_init_ 29 = .ok (.aload_n 0, 1) := by decide +kernel
theorem dX9_init__30 : decode cX9_init_ 30 = .ok (.lconst 0, 1) := by decide +kernel
theorem dX9_init__31 : decode cX9_init_ 31 = .ok (.putfield 26, 3) := by decide +kernel
theorem dX9_init__34 : decode cX9_init_ 34 = .ok (.aload_n 0, 1) := by decide +kernel
theorem dX9_init__35 : decode cX9_init_ 35 = .ok (.aconst_null, 1) := by decide +kernel
theorem dX9_init__36 : decode cX9_init_ 36 = .ok (.putfield 30, 3) := by decide +kernel
theorem dX9_init__39 : decode cX9_init_ 39 = .ok (.aload_n 0, 1) := by decide +kernel
theorem dX9_init__40 : decode cX9_init_ 40 = .ok (.iconst 0, 1) := by decide +kernel
theorem dX9_init__41 : decode cX9_init_ 41 = .ok (.putfield 34, 3) := by decide +kernel
theorem dX9_init__44 : decode cX9_init_ 44 = .ok (.aload_n 0, 1) := by decide +kernel
theorem dX9_init__45 : decode cX9_init_ 45 = .ok (.iconst 2, 1) := by decide +kernel
theorem dX9_init__46 : decode cX9_init_ 46 = .ok (.newarray .int, 2) := by decide +kernel
theorem dX9_init__48 : decode cX9_init_ 48 = .ok (.putfield 37, 3) := by decide +kernel
theorem dX9_init__51 : decode cX9_init_ 51 = .ok (.aload_n 0, 1) := by decide +kernel
theorem dX9_init__52 : decode cX9_init_ 52 = .ok (.aconst_null, 1) := by decide +kernel
theorem dX9_init__53 : decode cX9_init_ 53 = .ok (.putfield 41, 3) := by decide +kernel
theorem dX9_init__56 : decode cX9_init_ 56 = .ok (.aload_n 0, 1) := by decide +kernel
theorem dX9_init__57 : decode cX9_init_ 57 = .ok (.aconst_null, 1) := by decide +kernel
theorem dX9_init__58 : decode cX9_init_ 58 = .ok (.putfield 44, 3) := by decide +kernel
theorem dX9_init__61 : decode cX9_init_ 61 = .ok (.aload_n 0, 1) := by decide +kernel
theorem dX9_init__62 : decode cX9_init_ 62 = .ok (.aconst_null, 1) := by decide +kernel
theorem dX9_init__63 : decode cX9_init_ 63 = .ok (.putfield 47, 3) := by decide +kernel
theorem dX9_init__66 : decode cX9_init_ 66 = .ok (.aload_n 0, 1) := by decide +kernel
theorem dX9_init__67 : decode cX9_init_ 67 = .ok (.iload_n 1, 1) := by decide +kernel
theorem dX9_init__68 : decode cX9_init_ 68 = .ok (.putfield 50, 3) := by decide +kernel
theorem dX9_init__71 : decode cX9_init_ 71 = .ok (.aload_n 0, 1) := by decide +kernel
theorem dX9_init__72 : decode cX9_init_ 72 = .ok (.iload_n 2, 1) := by decide +kernel
theorem dX9_init__73 : decode cX9_init_ 73 = .ok (.putfield 53, 3) := by decide +kernel
theorem dX9_init__76 : decode cX9_init_ 76 = .ok (.aload_n 0, 1) := by decide +kernel
theorem dX9_init__77 : decode cX9_init_ 77 = .ok (.iload_n 3, 1) := by decide +kernel
theorem dX9_init__78 : decode cX9_init_ 78 = .ok (.putfield 7, 3) := by decide +kernel
theorem dX9_init__81 : decode cX9_init_ 81 = .ok (.aload_n 0, 1) := by decide +kernel
theorem dX9_init__82 : decode cX9_init_ 82 = .ok (.iload 4, 2) := by decide +kernel
theorem dX9_init__84 : decode cX9_init_ 84 = .ok (.putfield 13, 3) := by decide +kernel
theorem dX9_init__87 : decode cX9_init_ 87 = .ok (.return_, 1) := by decide +kernel
theorem dX9_give_0 : decode cX9_give 0 = .ok (.aload_n 0, 1) := by decide +kernel
theorem dX9_give_1 : decode cX9_give 1 = .ok (.getfield 34, 3) := by decide +kernel
theorem dX9_give_4 : decode cX9_give 4 = .ok (.aload_n 0, 1) := by decide +kernel
theorem dX9_give_5 : decode cX9_give 5 = .ok (.getfield 37, 3) := by decide +kernel
theorem dX9_give_8 : decode cX9_give 8 = .ok (.arraylength, 1) := by decide +kernel
theorem dX9_give_9 : decode cX9_give 9 = .ok (.if_icmp .lt 22, 3) := by decide +kernel
theorem dX9_give_12 : decode cX9_give 12 = .ok (.aload_n 0, 1) := by decide +kernel
theorem dX9_give_13 : decode cX9_give 13 = .ok (.aload_n 0, 1) := by decide +kernel
theorem dX9_give_14 : decode cX9_give 14 = .ok (.getfield 37, 3) := by decide +kernel
theorem dX9_give_17 : decode cX9_give 17 = .ok (.iconst 2, 1) := by decide +kernel
theorem dX9_give_18 : decode cX9_give 18 = .ok (.aload_n 0, 1) := by decide +kernel
theorem dX9_give_19 : decode cX9_give 19 = .ok (.getfield 34, 3) := by decide +kernel
theorem dX9_give_22 : decode cX9_give 22 = .ok (.imul, 1) := by decide +kernel
theorem dX9_give_23 : decode cX9_give 23 = .ok (.iconst 1, 1) := by decide +kernel
theorem dX9_give_24 : decode cX9_give 24 = .ok (.iadd, 1) := by decide +kernel
theorem dX9_give_25 : decode cX9_give 25 = .ok (.invokestatic 56, 3) := by decide +kernel
theorem dX9_give_28 : decode cX9_give 28 = .ok (.putfield 37, 3) := by decide +kernel
theorem dX9_give_31 : decode cX9_give 31 = .ok (.aload_n 0, 1) := by decide +kernel
theorem dX9_give_32 : decode cX9_give 32 = .ok (.getfield 37, 3) := by decide +kernel
theorem dX9_give_35 : decode cX9_give 35 = .ok (.aload_n 0, 1) := by decide +kernel
theorem dX9_give_36 : decode cX9_give 36 = .ok (.getfield 34, 3) := by decide +kernel
theorem dX9_give_39 : decode cX9_give 39 = .ok (.iload_n 1, 1) := by decide +kernel
theorem dX9_give_40 : decode cX9_give 40 = .ok (.iastore, 1) := by decide +kernel
theorem dX9_give_41 : decode cX9_give 41 = .ok (.aload_n 0, 1) := by decide +kernel
theorem dX9_give_42 : decode cX9_give 42 = .ok (.dup, 1) := by decide +kernel
theorem dX9_give_43 : decode cX9_give 43 = .ok (.getfield 34, 3) := by decide +kernel
theorem dX9_give_46 : decode cX9_give 46 = .ok (.iconst 1, 1) := by decide +kernel
theorem dX9_give_47 : decode cX9_give 47 = .ok (.iadd, 1) := by decide +kernel
theorem dX9_give_48 : decode cX9_give 48 = .ok (.putfield 34, 3) := by decide +kernel
theorem dX9_give_51 : decode cX9_give 51 = .ok (.aload_n 0, 1) := by decide +kernel
theorem dX9_give_52 : decode cX9_give 52 = .ok (.areturn, 1) := by decide +kernel
theorem dX9_giveWeighted_0 : decode cX9_giveWeighted 0 = .ok (.aload_n 0, 1) := by decide +kernel
theorem dX9_giveWeighted_1 : decode cX9_giveWeighted 1 = .ok (.iload_n 1, 1) := by decide +kernel
theorem dX9_giveWeighted_2 : decode cX9_giveWeighted 2 = .ok (.invokevirtual 62, 3) := by decide +kernel
theorem dX9_giveWeighted_5 : decode cX9_giveWeighted 5 = .ok (.pop, 1) := by decide +kernel
theorem dX9_giveWeighted_6 : decode cX9_giveWeighted 6 = .ok (.aload_n 0, 1) := by decide +kernel
theorem dX9_giveWeighted_7 : decode cX9_giveWeighted 7 = .ok (.getfield 41, 3) := by decide +kernel
theorem dX9_giveWeighted_10 : decode cX9_giveWeighted 10 = .ok (.ifnull 17, 3) := by decide +kernel
theorem dX9_giveWeighted_13 : decode cX9_giveWeighted 13 = .ok (.aload_n 0, 1) := by decide +kernel
theorem dX9_giveWeighted_14 : decode cX9_giveWeighted 14 = .ok (.getfield 44, 3) := by decide +kernel
theorem dX9_giveWeighted_17 : decode cX9_giveWeighted 17 = .ok (.ifnull 10, 3) := by decide +kernel
theorem dX9_giveWeighted_20 : decode cX9_giveWeighted 20 = .ok (.aload_n 0, 1) := by decide +kernel
theorem dX9_giveWeighted_21 : decode cX9_giveWeighted 21 = .ok (.getfield 47, 3) := by decide +kernel
theorem dX9_giveWeighted_24 : decode cX9_giveWeighted 24 = .ok (.ifnonnull 39, 3) := by decide +kernel
theorem dX9_giveWeighted_27 : decode cX9_giveWeighted 27 = .ok (.aload_n 0, 1) := by decide +kernel
theorem dX9_giveWeighted_28 : decode cX9_giveWeighted 28 = .ok (.aload_n 0, 1) := by decide +kernel
theorem dX9_giveWeighted_29 : decode cX9_giveWeighted 29 = .ok (.getfield 37, 3) := by decide +kernel
theorem dX9_giveWeighted_32 : decode cX9_giveWeighted 32 = .ok (.arraylength, 1) := by decide +kernel
theorem dX9_giveWeighted_33 : decode cX9_giveWeighted 33 = .ok (.newarray .int, 2) := by decide +kernel
theorem dX9_giveWeighted_35 : decode cX9_giveWeighted 35 = .ok (.putfield 41, 3) := by decide +kernel
theorem dX9_giveWeighted_38 : decode cX9_giveWeighted 38 = .ok (.aload_n 0, 1) := by decide +kernel
theorem dX9_giveWeighted_39 : decode cX9_giveWeighted 39 = .ok (.aload_n 0, 1) := by decide +kernel
theorem dX9_giveWeighted_40 : decode cX9_giveWeighted 40 = .ok (.getfield 37, 3) := by decide +kernel
theorem dX9_giveWeighted_43 : decode cX9_giveWeighted 43 = .ok (.arraylength, 1) := by decide +kernel
theorem dX9_giveWeighted_44 : decode cX9_giveWeighted 44 = .ok (.newarray .int, 2) := by decide +kernel
theorem dX9_giveWeighted_46 : decode cX9_giveWeighted 46 = .ok (.putfield 44, 3) := by decide +kernel
theorem dX9_giveWeighted_49 : decode cX9_giveWeighted 49 = .ok (.aload_n 0, 1) := by decide +kernel
theorem dX9_giveWeighted_50 : decode cX9_giveWeighted 50 = .ok (.aload_n 0, 1) := by decide +kernel
theorem dX9_giveWeighted_51 : decode cX9_giveWeighted 51 = .ok (.getfield 37, 3) := by decide +kernel
theorem dX9_giveWeighted_54 : decode cX9_giveWeighted 54 = .ok (.arraylength, 1) := by decide +kernel
theorem dX9_giveWeighted_55 : decode cX9_giveWeighted 55 = .ok (.newarray .int, 2) := by decide +kernel
theorem dX9_giveWeighted_57 : decode cX9_giveWeighted 57 = .ok (.putfield 47, 3) := by decide +kernel
theorem dX9_giveWeighted_60 : decode cX9_giveWeighted 60 = .ok (.goto 63, 3) := by decide +kernel
theorem dX9_giveWeighted_63 : decode cX9_giveWeighted 63 = .ok (.aload_n 0, 1) := by decide +kernel
theorem dX9_giveWeighted_64 : decode cX9_giveWeighted 64 = .ok (.getfield 41, 3) := by decide +kernel
theorem dX9_giveWeighted_67 : decode cX9_giveWeighted 67 = .ok (.arraylength, 1) := by decide +kernel
theorem dX9_giveWeighted_68 : decode cX9_giveWeighted 68 = .ok (.aload_n 0, 1) := by decide +kernel
theorem dX9_giveWeighted_69 : decode cX9_giveWeighted 69 = .ok (.getfield 34, 3) := by decide +kernel
theorem dX9_giveWeighted_72 : decode cX9_giveWeighted 72 = .ok (.if_icmp .ge 51, 3) := by decide +kernel
theorem dX9_giveWeighted_75 : decode cX9_giveWeighted 75 = .ok (.aload_n 0, 1) := by decide +kernel
theorem dX9_giveWeighted_76 : decode cX9_giveWeighted 76 = .ok (.aload_n 0, 1) := by decide +kernel
theorem dX9_giveWeighted_77 : decode cX9_giveWeighted 77 = .ok (.getfield 41, 3) := by decide +kernel
theorem dX9_giveWeighted_80 : decode cX9_giveWeighted 80 = .ok (.aload_n 0, 1) := by decide +kernel
theorem dX9_giveWeighted_81 : decode cX9_giveWeighted 81 = .ok (.getfield 37, 3) := by decide +kernel
theorem dX9_giveWeighted_84 : decode cX9_giveWeighted 84 = .ok (.arraylength, 1) := by decide +kernel
theorem dX9_giveWeighted_85 : decode cX9_giveWeighted 85 = .ok (.invokestatic 56, 3) := by decide +kernel
theorem dX9_giveWeighted_88 : decode cX9_giveWeighted 88 = .ok (.putfield 41, 3) := by decide +kernel
theorem dX9_giveWeighted_91 : decode cX9_giveWeighted 91 = .ok (.aload_n 0, 1) := by decide +kernel
theorem dX9_giveWeighted_92 : decode cX9_giveWeighted 92 = .ok (.aload_n 0, 1) := by decide +kernel
theorem dX9_giveWeighted_93 : decode cX9_giveWeighted 93 = .ok (.getfield 44, 3) := by decide +kernel
theorem dX9_giveWeighted_96 : decode cX9_giveWeighted 96 = .ok (.aload_n 0, 1) := by decide +kernel
theorem dX9_giveWeighted_97 : decode cX9_giveWeighted 97 = .ok (.getfield 37, 3) := by decide +kernel
theorem dX9_giveWeighted_100 : decode cX9_giveWeighted 100 = .ok (.arraylength, 1) := by decide +kernel
theorem dX9_giveWeighted_101 : decode cX9_giveWeighted 101 = .ok (.invokestatic 56, 3) := by decide +kernel
theorem dX9_giveWeighted_104 : decode cX9_giveWeighted 104 = .ok (.putfield 44, 3) := by decide +kernel
theorem dX9_giveWeighted_107 : decode cX9_giveWeighted 107 = .ok (.aload_n 0, 1) := by decide +kernel
theorem dX9_giveWeighted_108 : decode cX9_giveWeighted 108 = .ok (.aload_n 0, 1) := by decide +kernel
theorem dX9_giveWeighted_109 : decode cX9_giveWeighted 109 = .ok (.getfield 47, 3) := by decide +kernel
theorem dX9_giveWeighted_112 : decode cX9_giveWeighted 112 = .ok (.aload_n 0, 1) := by decide +kernel
theorem dX9_giveWeighted_113 : decode cX9_giveWeighted 113 = .ok (.getfield 37, 3) := by decide +kernel
theorem dX9_giveWeighted_116 : decode cX9_giveWeighted 116 = .ok (.arraylength, 1) := by decide +kernel
theorem dX9_giveWeighted_117 : decode cX9_giveWeighted 117 = .ok (.invokestatic 56, 3) := by decide +kernel
theorem dX9_giveWeighted_120 : decode cX9_giveWeighted 120 = .ok (.putfield 47, 3) := by decide +kernel
theorem dX9_giveWeighted_123 : decode cX9_giveWeighted 123 = .ok (.aload_n 0, 1) := by decide +kernel
theorem dX9_giveWeighted_124 : decode cX9_giveWeighted 124 = .ok (.dup, 1) := by decide +kernel
theorem dX9_giveWeighted_125 : decode cX9_giveWeighted 125 = .ok (.getfield 7, 3) := by decide +kernel
theorem dX9_giveWeighted_128 : decode cX9_giveWeighted 128 = .ok (.iload_n 2, 1) := by decide +kernel
theorem dX9_giveWeighted_129 : decode cX9_giveWeighted 129 = .ok (.iload_n 3, 1) := by decide +kernel
theorem dX9_giveWeighted_130 : decode cX9_giveWeighted 130 = .ok (.imul, 1) := by decide +kernel
theorem dX9_giveWeighted_131 : decode cX9_giveWeighted 131 = .ok (.iadd, 1) := by decide +kernel
theorem dX9_giveWeighted_132 : decode cX9_giveWeighted 132 = .ok (.putfield 7, 3) := by decide +kernel
theorem dX9_giveWeighted_135 : decode cX9_giveWeighted 135 = .ok (.aload_n 0, 1) := by decide +kernel
theorem dX9_giveWeighted_136 : decode cX9_giveWeighted 136 = .ok (.getfield 41, 3) := by decide +kernel
theorem dX9_giveWeighted_139 : decode cX9_giveWeighted 139 = .ok (.aload_n 0, 1) := by decide +kernel
theorem dX9_giveWeighted_140 : decode cX9_giveWeighted 140 = .ok (.getfield 34, 3) := by decide +kernel
theorem dX9_giveWeighted_143 : decode cX9_giveWeighted 143 = .ok (.iconst 1, 1) := by decide +kernel
theorem dX9_giveWeighted_144 : decode cX9_giveWeighted 144 = .ok (.isub, 1) := by decide +kernel
theorem dX9_giveWeighted_145 : decode cX9_giveWeighted 145 = .ok (.iload_n 2, 1) := by decide +kernel
theorem dX9_giveWeighted_146 : decode cX9_giveWeighted 146 = .ok (.iastore, 1) := by decide +kernel
theorem dX9_giveWeighted_147 : decode cX9_giveWeighted 147 = .ok (.aload_n 0, 1) := by decide +kernel
theorem dX9_giveWeighted_148 : decode cX9_giveWeighted 148 = .ok (.getfield 44, 3) := by decide +kernel
theorem dX9_giveWeighted_151 : decode cX9_giveWeighted 151 = .ok (.aload_n 0, 1) := by decide +kernel
theorem dX9_giveWeighted_152 : decode cX9_giveWeighted 152 = .ok (.getfield 34, 3) := by decide +kernel
theorem dX9_giveWeighted_155 : decode cX9_giveWeighted 155 = .ok (.iconst 1, 1) := by decide +kernel
theorem dX9_giveWeighted_156 : decode cX9_giveWeighted 156 = .ok (.isub, 1) := by decide +kernel
theorem dX9_giveWeighted_157 : decode cX9_giveWeighted 157 = .ok (.iload_n 3, 1) := by decide +kernel
theorem dX9_giveWeighted_158 : decode cX9_giveWeighted 158 = .ok (.iastore, 1) := by decide +kernel
theorem dX9_giveWeighted_159 : decode cX9_giveWeighted 159 = .ok (.aload_n 0, 1) := by decide +kernel
theorem dX9_giveWeighted_160 : decode cX9_giveWeighted 160 = .ok (.getfield 47, 3) := by decide +kernel
theorem dX9_giveWeighted_163 : decode cX9_giveWeighted 163 = .ok (.aload_n 0, 1) := by decide +kernel
theorem dX9_giveWeighted_164 : decode cX9_giveWeighted 164 = .ok (.getfield 34, 3) := by decide +kernel
theorem dX9_giveWeighted_167 : decode cX9_giveWeighted 167 = .ok (.iconst 1, 1) := by decide +kernel
theorem dX9_giveWeighted_168 : decode cX9_giveWeighted 168 = .ok (.isub, 1) := by decide +kernel
theorem dX9_giveWeighted_169 : decode cX9_giveWeighted 169 = .ok (.aload_n 0, 1) := by decide +kernel
theorem dX9_giveWeighted_170 : decode cX9_giveWeighted 170 = .ok (.getfield 7, 3) := by decide +kernel
theorem dX9_giveWeighted_173 : decode cX9_giveWeighted 173 = .ok (.iastore, 1) := by decide +kernel
theorem dX9_giveWeighted_174 : decode cX9_giveWeighted 174 = .ok (.return_, 1) := by decide +kernel
theorem dX9_besides_0 : decode cX9_besides 0 = .ok (.aload_n 0, 1) := by decide +kernel
theorem dX9_besides_1 : decode cX9_besides 1 = .ok (.getfield 22, 3) := by decide +kernel
theorem dX9_besides_4 : decode cX9_besides 4 = .ok (.ifCond .eq 16, 3) := by decide +kernel
theorem dX9_besides_7 : decode cX9_besides 7 = .ok (.iconst 0, 1) := by decide +kernel
theorem dX9_besides_8 : decode cX9_besides 8 = .ok (.aload_n 0, 1) := by decide +kernel
theorem dX9_besides_9 : decode cX9_besides 9 = .ok (.getfield 34, 3) := by decide +kernel
theorem dX9_besides_12 : decode cX9_besides 12 = .ok (.iconst 2, 1) := by decide +kernel
theorem dX9_besides_13 : decode cX9_besides 13 = .ok (.isub, 1) := by decide +kernel
theorem dX9_besides_14 : decode cX9_besides 14 = .ok (.invokestatic 66, 3) := by decide +kernel
theorem dX9_besides_17 : decode cX9_besides 17 = .ok (.goto 4, 3) := by decide +kernel
theorem dX9_besides_20 : decode cX9_besides 20 = .ok (.iconst 0, 1) := by decide +kernel
theorem dX9_besides_21 : decode cX9_besides 21 = .ok (.ireturn, 1) := by decide +kernel
theorem dX10_start_0 : decode cX10_start 0 = .ok (.aload_n 0, 1) := by decide +kernel
theorem dX10_start_1 : decode cX10_start 1 = .ok (.aload_n 1, 1) := by decide +kernel
theorem dX10_start_2 : decode cX10_start 2 = .ok (.putfield 9, 3) := by decide +kernel
theorem dX10_start_5 : decode cX10_start 5 = .ok (.aload_n 0, 1) := by decide +kernel
theorem dX10_start_6 : decode cX10_start 6 = .ok (.iload_n 2, 1) := by decide +kernel
theorem dX10_start_7 : decode cX10_start 7 = .ok (.iconst 1, 1) := by decide +kernel
theorem dX10_start_8 : decode cX10_start 8 = .ok (.iadd, 1) := by decide +kernel
theorem dX10_start_9 : decode cX10_start 9 = .ok (.putfield 15, 3) := by decide +kernel
theorem dX10_start_12 : decode cX10_start 12 = .ok (.aload_n 0, 1) := by decide +kernel
theorem dX10_start_13 : decode cX10_start 13 = .ok (.iload_n 3, 1) := by decide +kernel
theorem dX10_start_14 : decode cX10_start 14 = .ok (.putfield 19, 3) := by decide +kernel
theorem dX10_start_17 : decode cX10_start 17 = .ok (.aload_n 0, 1) := by decide +kernel
theorem dX10_start_18 : decode cX10_start 18 = .ok (.iconst 0, 1) := by decide +kernel
theorem dX10_start_19 : decode cX10_start 19 = .ok (.putfield 22, 3) := by decide +kernel
theorem dX10_start_22 : decode cX10_start 22 = .ok (.return_, 1) := by decide +kernel
theorem dX10_finish_0 : decode cX10_finish 0 = .ok (.aload_n 0, 1) := by decide +kernel
theorem dX10_finish_1 : decode cX10_finish 1 = .ok (.getfield 15, 3) := by decide +kernel
theorem dX10_finish_4 : decode cX10_finish 4 = .ok (.aload_n 0, 1) := by decide +kernel
theorem dX10_finish_5 : decode cX10_finish 5 = .ok (.getfield 19, 3) := by decide +kernel
theorem dX10_finish_8 : decode cX10_finish 8 = .ok (.if_icmp .eq 15, 3) := by decide +kernel
theorem dX10_finish_11 : decode cX10_finish 11 = .ok (.aload_n 0, 1) := by decide +kernel
theorem dX10_finish_12 : decode cX10_finish 12 = .ok (.getfield 28, 3) := by decide +kernel
theorem dX10_finish_15 : decode cX10_finish 15 = .ok (.iconst 1, 1) := by decide +kernel
theorem dX10_finish_16 : decode cX10_finish 16 = .ok (.aload_n 0, 1) := by decide +kernel
theorem dX10_finish_17 : decode cX10_finish 17 = .ok (.getfield 15, 3) := by decide +kernel
theorem dX10_finish_20 : decode cX10_finish 20 = .ok (.invokevirtual 32, 3) := by decide +kernel
theorem dX10_finish_23 : decode cX10_finish 23 = .ok (.return_, 1) := by decide +kernel
theorem dX10_here_0 : decode cX10_here 0 = .ok (.aload_n 0, 1) := by decide +kernel
theorem dX10_here_1 : decode cX10_here 1 = .ok (.getfield 15, 3) := by decide +kernel
theorem dX10_here_4 : decode cX10_here 4 = .ok (.sipush 2000, 3) := by decide +kernel
theorem dX10_here_7 : decode cX10_here 7 = .ok (.if_icmp .ge 18, 3) := by decide +kernel
theorem dX10_here_10 : decode cX10_here 10 = .ok (.aload_n 0, 1) := by decide +kernel
theorem dX10_here_11 : decode cX10_here 11 = .ok (.getfield 28, 3) := by decide +kernel
theorem dX10_here_14 : decode cX10_here 14 = .ok (.getfield 38, 3) := by decide +kernel
theorem dX10_here_17 : decode cX10_here 17 = .ok (.aload_n 0, 1) := by decide +kernel
theorem dX10_here_18 : decode cX10_here 18 = .ok (.getfield 15, 3) := by decide +kernel
theorem dX10_here_21 : decode cX10_here 21 = .ok (.baload, 1) := by decide +kernel
theorem dX10_here_22 : decode cX10_here 22 = .ok (.goto 4, 3) := by decide +kernel
theorem dX10_here_25 : decode cX10_here 25 = .ok (.iconst 0, 1) := by decide +kernel
theorem dX10_here_26 : decode cX10_here 26 = .ok (.ireturn, 1) := by decide +kernel
theorem dX10_skipBlanks_0 : decode cX10_skipBlanks 0 = .ok (.aload_n 0, 1) := by decide +kernel
theorem dX10_skipBlanks_1 : decode cX10_skipBlanks 1 = .ok (.getfield 15, 3) := by decide +kernel
theorem dX10_skipBlanks_4 : decode cX10_skipBlanks 4 = .ok (.aload_n 0, 1) := by decide +kernel
theorem dX10_skipBlanks_5 : decode cX10_skipBlanks 5 = .ok (.getfield 19, 3) := by decide +kernel
theorem dX10_skipBlanks_8 : decode cX10_skipBlanks 8 = .ok (.if_icmp .ge 43, 3) := by decide +kernel
theorem dX10_skipBlanks_11 : decode cX10_skipBlanks 11 = .ok (.aload_n 0, 1) := by decide +kernel
theorem dX10_skipBlanks_12 : decode cX10_skipBlanks 12 = .ok (.getfield 15, 3) := by decide +kernel
theorem dX10_skipBlanks_15 : decode cX10_skipBlanks 15 = .ok (.sipush 2000, 3) := by decide +kernel
theorem dX10_skipBlanks_18 : decode cX10_skipBlanks 18 = .ok (.if_icmp .ge 33, 3) := by decide +kernel
theorem dX10_skipBlanks_21 : decode cX10_skipBlanks 21 = .ok (.aload_n 0, 1) := by decide +kernel
theorem dX10_skipBlanks_22 : decode cX10_skipBlanks 22 = .ok (.getfield 28, 3) := by decide +kernel
theorem dX10_skipBlanks_25 : decode cX10_skipBlanks 25 = .ok (.getfield 38, 3) := by decide +kernel
theorem dX10_skipBlanks_28 : decode cX10_skipBlanks 28 = .ok (.aload_n 0, 1) := by decide +kernel
theorem dX10_skipBlanks_29 : decode cX10_skipBlanks 29 = .ok (.getfield 15, 3) := by decide +kernel
theorem dX10_skipBlanks_32 : decode cX10_skipBlanks 32 = .ok (.baload, 1) := by decide +kernel
theorem dX10_skipBlanks_33 : decode cX10_skipBlanks 33 = .ok (.bipush 32, 2) := by decide +kernel
theorem dX10_skipBlanks_35 : decode cX10_skipBlanks 35 = .ok (.if_icmp .ne 16, 3) := by decide +kernel
theorem dX10_skipBlanks_38 : decode cX10_skipBlanks 38 = .ok (.aload_n 0, 1) := by decide +kernel
theorem dX10_skipBlanks_39 : decode cX10_skipBlanks 39 = .ok (.dup, 1) := by decide +kernel
theorem dX10_skipBlanks_40 : decode cX10_skipBlanks 40 = .ok (.getfield 15, 3) := by decide +kernel
theorem dX10_skipBlanks_43 : decode cX10_skipBlanks 43 = .ok (.iconst 1, 1) := by decide +kernel
theorem dX10_skipBlanks_44 : decode cX10_skipBlanks 44 = .ok (.iadd, 1) := by decide +kernel
theorem dX10_skipBlanks_45 : decode cX10_skipBlanks 45 = .ok (.putfield 15, 3) := by decide +kernel
theorem dX10_skipBlanks_48 : decode cX10_skipBlanks 48 = .ok (.goto (-48), 3) := by decide +kernel
theorem dX10_skipBlanks_51 : decode cX10_skipBlanks 51 = .ok (.return_, 1) := by decide +kernel
theorem dX10_take_0 : decode cX10_take 0 = .ok (.aload_n 0, 1) := by decide +kernel
theorem dX10_take_1 : decode cX10_take 1 = .ok (.invokevirtual 42, 3) := by decide +kernel
theorem dX10_take_4 : decode cX10_take 4 = .ok (.aload_n 0, 1) := by decide +kernel
theorem dX10_take_5 : decode cX10_take 5 = .ok (.invokevirtual 45, 3) := by decide +kernel
theorem dX10_take_8 : decode cX10_take 8 = .ok (.iload_n 1, 1) := by decide +kernel
theorem dX10_take_9 : decode cX10_take 9 = .ok (.if_icmp .eq 18, 3) := by decide +kernel
theorem dX10_take_12 : decode cX10_take 12 = .ok (.aload_n 0, 1) := by decide +kernel
theorem dX10_take_13 : decode cX10_take 13 = .ok (.getfield 28, 3) := by decide +kernel
theorem dX10_take_16 : decode cX10_take 16 = .ok (.iconst 1, 1) := by decide +kernel
theorem dX10_take_17 : decode cX10_take 17 = .ok (.aload_n 0, 1) := by decide +kernel
theorem dX10_take_18 : decode cX10_take 18 = .ok (.getfield 15, 3) := by decide +kernel
theorem dX10_take_21 : decode cX10_take 21 = .ok (.invokevirtual 32, 3) := by decide +kernel
theorem dX10_take_24 : decode cX10_take 24 = .ok (.goto 13, 3) := by decide +kernel
theorem dX10_take_27 : decode cX10_take 27 = .ok (.aload_n 0, 1) := by decide +kernel
theorem dX10_take_28 : decode cX10_take 28 = .ok (.dup, 1) := by decide +kernel
theorem dX10_take_29 : decode cX10_take 29 = .ok (.getfield 15, 3) := by decide +kernel
theorem dX10_take_32 : decode cX10_take 32 = .ok (.iconst 1, 1) := by decide +kernel
theorem dX10_take_33 : decode cX10_take 33 = .ok (.iadd, 1) := by decide +kernel
theorem dX10_take_34 : decode cX10_take 34 = .ok (.putfield 15, 3) := by decide +kernel
theorem dX10_take_37 : decode cX10_take 37 = .ok (.return_, 1) := by decide +kernel
theorem dX10_seq_0 : decode cX10_seq 0 = .ok (.aload_n 0, 1) := by decide +kernel
theorem dX10_seq_1 : decode cX10_seq 1 = .ok (.invokevirtual 42, 3) := by decide +kernel
theorem dX10_seq_4 : decode cX10_seq 4 = .ok (.new 49, 3) := by decide +kernel
theorem dX10_seq_7 : decode cX10_seq 7 = .ok (.dup, 1) := by decide +kernel
theorem dX10_seq_8 : decode cX10_seq 8 = .ok (.iconst 4, 1) := by decide +kernel
theorem dX10_seq_9 : decode cX10_seq 9 = .ok (.aload_n 0, 1) := by decide +kernel
theorem dX10_seq_10 : decode cX10_seq 10 = .ok (.getfield 15, 3) := by decide +kernel
theorem dX10_seq_13 : decode cX10_seq 13 = .ok (.invokespecial 51, 3) := by decide +kernel
theorem dX10_seq_16 : decode cX10_seq 16 = .ok (.astore_n 1, 1) := by decide +kernel
theorem dX10_seq_17 : decode cX10_seq 17 = .ok (.aload_n 0, 1) := by decide +kernel
theorem dX10_seq_18 : decode cX10_seq 18 = .ok (.aload_n 1, 1) := by decide +kernel
theorem dX10_seq_19 : decode cX10_seq 19 = .ok (.invokevirtual 53, 3) := by decide +kernel
theorem dX10_seq_22 : decode cX10_seq 22 = .ok (.aload_n 0, 1) := by decide +kernel
theorem dX10_seq_23 : decode cX10_seq 23 = .ok (.getfield 28, 3) := by decide +kernel
theorem dX10_seq_26 : decode cX10_seq 26 = .ok (.getfield 57, 3) := by decide +kernel
theorem dX10_seq_29 : decode cX10_seq 29 = .ok (.ifCond .ne 14, 3) := by decide +kernel
theorem dX10_seq_32 : decode cX10_seq 32 = .ok (.aload_n 0, 1) := by decide +kernel
theorem dX10_seq_33 : decode cX10_seq 33 = .ok (.getfield 9, 3) := by decide +kernel
theorem dX10_seq_36 : decode cX10_seq 36 = .ok (.aload_n 1, 1) := by decide +kernel
theorem dX10_seq_37 : decode cX10_seq 37 = .ok (.invokevirtual 60, 3) := by decide +kernel
theorem dX10_seq_40 : decode cX10_seq 40 = .ok (.goto 4, 3) := by decide +kernel
theorem dX10_seq_43 : decode cX10_seq 43 = .ok (.iconst 0, 1) := by decide +kernel
theorem dX10_seq_44 : decode cX10_seq 44 = .ok (.ireturn, 1) := by decide +kernel
theorem dX10_steps_0 : decode cX10_steps 0 = .ok (.aload_n 0, 1) := by decide +kernel
theorem dX10_steps_1 : decode cX10_steps 1 = .ok (.invokevirtual 42, 3) := by decide +kernel
theorem dX10_steps_4 : decode cX10_steps 4 = .ok (.iconst 1, 1) := by decide +kernel
theorem dX10_steps_5 : decode cX10_steps 5 = .ok (.istore_n 2, 1) := by decide +kernel
theorem dX10_steps_6 : decode cX10_steps 6 = .ok (.iconst 0, 1) := by decide +kernel
theorem dX10_steps_7 : decode cX10_steps 7 = .ok (.istore_n 3, 1) := by decide +kernel
theorem dX10_steps_8 : decode cX10_steps 8 = .ok (.iload_n 3, 1) := by decide +kernel
theorem dX10_steps_9 : decode cX10_steps 9 = .ok (.sipush 2000, 3) := by decide +kernel
theorem dX10_steps_12 : decode cX10_steps 12 = .ok (.if_icmp .ge 115, 3) := by decide +kernel
theorem dX10_steps_15 : decode cX10_steps 15 = .ok (.iload_n 2, 1) := by decide +kernel
theorem dX10_steps_16 : decode cX10_steps 16 = .ok (.ifCond .eq 111, 3) := by decide +kernel
theorem dX10_steps_19 : decode cX10_steps 19 = .ok (.aload_n 0, 1) := by decide +kernel
theorem dX10_steps_20 : decode cX10_steps 20 = .ok (.invokevirtual 66, 3) := by decide +kernel
theorem dX10_steps_23 : decode cX10_steps 23 = .ok (.istore 4, 2) := by decide +kernel
theorem dX10_steps_25 : decode cX10_steps 25 = .ok (.aload_n 0, 1) := by decide +kernel
theorem dX10_steps_26 : decode cX10_steps 26 = .ok (.getfield 28, 3) := by decide +kernel
theorem dX10_steps_29 : decode cX10_steps 29 = .ok (.getfield 57, 3) := by decide +kernel
theorem dX10_steps_32 : decode cX10_steps 32 = .ok (.ifCond .ne 12, 3) := by decide +kernel
theorem dX10_steps_35 : decode cX10_steps 35 = .ok (.aload_n 0, 1) := by decide +kernel
theorem dX10_steps_36 : decode cX10_steps 36 = .ok (.iload 4, 2) := by decide +kernel
theorem dX10_steps_38 : decode cX10_steps 38 = .ok (.invokevirtual 69, 3) := by decide +kernel
theorem dX10_steps_41 : decode cX10_steps 41 = .ok (.goto 4, 3) := by decide +kernel
theorem dX10_steps_44 : decode cX10_steps 44 = .ok (.iconst 0, 1) := by decide +kernel
theorem dX10_steps_45 : decode cX10_steps 45 = .ok (.istore 4, 2) := by decide +kernel
theorem dX10_steps_47 : decode cX10_steps 47 = .ok (.aload_n 0, 1) := by decide +kernel
theorem dX10_steps_48 : decode cX10_steps 48 = .ok (.bipush 64, 2) := by decide +kernel
theorem dX10_steps_50 : decode cX10_steps 50 = .ok (.invokevirtual 73, 3) := by decide +kernel
theorem dX10_steps_53 : decode cX10_steps 53 = .ok (.istore 5, 2) := by decide +kernel
theorem dX10_steps_55 : decode cX10_steps 55 = .ok (.aload_n 0, 1) := by decide +kernel
theorem dX10_steps_56 : decode cX10_steps 56 = .ok (.bipush 33, 2) := by decide +kernel
theorem dX10_steps_58 : decode cX10_steps 58 = .ok (.invokevirtual 73, 3) := by decide +kernel
theorem dX10_steps_61 : decode cX10_steps 61 = .ok (.istore 6, 2) := by decide +kernel
theorem dX10_steps_63 : decode cX10_steps 63 = .ok (.aload_n 1, 1) := by decide +kernel
theorem dX10_steps_64 : decode cX10_steps 64 = .ok (.iload 4, 2) := by decide +kernel
theorem dX10_steps_66 : decode cX10_steps 66 = .ok (.iload 5, 2) := by decide +kernel
theorem dX10_steps_68 : decode cX10_steps 68 = .ok (.iload 6, 2) := by decide +kernel
theorem dX10_steps_70 : decode cX10_steps 70 = .ok (.invokevirtual 76, 3) := by decide +kernel
theorem dX10_steps_73 : decode cX10_steps 73 = .ok (.aload_n 0, 1) := by decide +kernel
theorem dX10_steps_74 : decode cX10_steps 74 = .ok (.invokevirtual 42, 3) := by decide +kernel
theorem dX10_steps_77 : decode cX10_steps 77 = .ok (.aload_n 0, 1) := by decide +kernel
theorem dX10_steps_78 : decode cX10_steps 78 = .ok (.getfield 28, 3) := by decide +kernel
theorem dX10_steps_81 : decode cX10_steps 81 = .ok (.getfield 57, 3) := by decide +kernel
theorem dX10_steps_84 : decode cX10_steps 84 = .ok (.ifCond .ne 35, 3) := by decide +kernel
theorem dX10_steps_87 : decode cX10_steps 87 = .ok (.aload_n 0, 1) := by decide +kernel
theorem dX10_steps_88 : decode cX10_steps 88 = .ok (.invokevirtual 45, 3) := by decide +kernel
theorem dX10_steps_91 : decode cX10_steps 91 = .ok (.invokestatic 80, 3) := by decide +kernel
theorem dX10_steps_94 : decode cX10_steps 94 = .ok (.ifCond .eq 25, 3) := by decide +kernel
theorem dX10_steps_97 : decode cX10_steps 97 = .ok (.aload_n 0, 1) := by decide +kernel
theorem dX10_steps_98 : decode cX10_steps 98 = .ok (.getfield 28, 3) := by decide +kernel
theorem dX10_steps_101 : decode cX10_steps 101 = .ok (.aload_n 0, 1) := by decide +kernel
theorem dX10_steps_102 : decode cX10_steps 102 = .ok (.getfield 15, 3) := by decide +kernel
theorem dX10_steps_105 : decode cX10_steps 105 = .ok (.iconst 1, 1) := by decide +kernel
theorem dX10_steps_106 : decode cX10_steps 106 = .ok (.isub, 1) := by decide +kernel
theorem dX10_steps_107 : decode cX10_steps 107 = .ok (.invokevirtual 84, 3) := by decide +kernel
theorem dX10_steps_110 : decode cX10_steps 110 = .ok (.bipush 32, 2) := by decide +kernel
theorem dX10_steps_112 : decode cX10_steps 112 = .ok (.if_icmp .ne 7, 3) := by decide +kernel
theorem dX10_steps_115 : decode cX10_steps 115 = .ok (.iconst 1, 1) := by decide +kernel
theorem dX10_steps_116 : decode cX10_steps 116 = .ok (.goto 4, 3) := by decide +kernel
theorem dX10_steps_119 : decode cX10_steps 119 = .ok (.iconst 0, 1) := by decide +kernel
theorem dX10_steps_120 : decode cX10_steps 120 = .ok (.istore_n 2, 1) := by decide +kernel
theorem dX10_steps_121 : decode cX10_steps 121 = .ok (.iinc 3 1, 3) := by decide +kernel
theorem dX10_steps_124 : decode cX10_steps 124 = .ok (.goto (-116), 3) := by decide +kernel
theorem dX10_steps_127 : decode cX10_steps 127 = .ok (.return_, 1) := by decide +kernel
theorem dX10_behindSign_0 : decode cX10_behindSign 0 = .ok (.aload_n 0, 1) := by decide +kernel
theorem dX10_behindSign_1 : decode cX10_behindSign 1 = .ok (.invokevirtual 42, 3) := by decide +kernel
theorem dX10_behindSign_4 : decode cX10_behindSign 4 = .ok (.aload_n 0, 1) := by decide +kernel
theorem dX10_behindSign_5 : decode cX10_behindSign 5 = .ok (.getfield 28, 3) := by decide +kernel
theorem dX10_behindSign_8 : decode cX10_behindSign 8 = .ok (.getfield 57, 3) := by decide +kernel
theorem dX10_behindSign_11 : decode cX10_behindSign 11 = .ok (.ifCond .ne 11, 3) := by decide +kernel
theorem dX10_behindSign_14 : decode cX10_behindSign 14 = .ok (.aload_n 0, 1) := by decide +kernel
theorem dX10_behindSign_15 : decode cX10_behindSign 15 = .ok (.invokevirtual 45, 3) := by decide +kernel
theorem dX10_behindSign_18 : decode cX10_behindSign 18 = .ok (.iload_n 1, 1) := by decide +kernel
theorem dX10_behindSign_19 : decode cX10_behindSign 19 = .ok (.if_icmp .eq 5, 3) := by decide +kernel
theorem dX10_behindSign_22 : decode cX10_behindSign 22 = .ok (.iconst 1, 1) := by decide +kernel
theorem dX10_behindSign_23 : decode cX10_behindSign 23 = .ok (.ireturn, 1) := by decide +kernel
theorem dX10_behindSign_24 : decode cX10_behindSign 24 = .ok (.aload_n 0, 1) := by decide +kernel
theorem dX10_behindSign_25 : decode cX10_behindSign 25 = .ok (.dup, 1) := by decide +kernel
theorem dX10_behindSign_26 : decode cX10_behindSign 26 = .ok (.getfield 15, 3) := by decide +kernel
theorem dX10_behindSign_29 : decode cX10_behindSign 29 = .ok (.iconst 1, 1) := by decide +kernel
theorem dX10_behindSign_30 : decode cX10_behindSign 30 = .ok (.iadd, 1) := by decide +kernel
theorem dX10_behindSign_31 : decode cX10_behindSign 31 = .ok (.putfield 15, 3) := by decide +kernel
theorem dX10_behindSign_34 : decode cX10_behindSign 34 = .ok (.aload_n 0, 1) := by decide +kernel
theorem dX10_behindSign_35 : decode cX10_behindSign 35 = .ok (.iconst 1, 1) := by decide +kernel
theorem dX10_behindSign_36 : decode cX10_behindSign 36 = .ok (.bipush 16, 2) := by decide +kernel
theorem dX10_behindSign_38 : decode cX10_behindSign 38 = .ok (.invokevirtual 87, 3) := by decide +kernel
theorem dX10_behindSign_41 : decode cX10_behindSign 41 = .ok (.ireturn, 1) := by decide +kernel
