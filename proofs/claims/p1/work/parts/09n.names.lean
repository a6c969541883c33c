abbrev wsX120 : List Cond := u_ws RX12 TX12 153
abbrev cX12_init : ByteArray := prog_14_method_113_code
def yX12_init : MethodName := ⟨RX12, "<init>", "()V"⟩
def wsX12_init_r1 : List Cond := [Cond.methodLink RX12 702 objectInit, Cond.instanceMethod objectInit, Cond.code objectInit ⟨#[0xb1]⟩ 1 none, Cond.arrayClass .byte, Cond.fieldLink RX12 50 "CycleStudioModel" "tape" "[B", Cond.arrayClass .char, Cond.fieldLink RX12 112 "CycleStudioModel" "functionNames" "[C", Cond.arrayClass .int, Cond.fieldLink RX12 228 "CycleStudioModel" "wants" "[I", Cond.constant RX12 707 (32768), Cond.fieldLink RX12 7 "CycleStudioModel" "kindOf" "[I", Cond.fieldLink RX12 11 "CycleStudioModel" "placeOf" "[I", Cond.fieldLink RX12 14 "CycleStudioModel" "p0" "[I", Cond.fieldLink RX12 17 "CycleStudioModel" "p1" "[I", Cond.fieldLink RX12 20 "CycleStudioModel" "p2" "[I", Cond.fieldLink RX12 23 "CycleStudioModel" "p3" "[I", Cond.fieldLink RX12 26 "CycleStudioModel" "p4" "[I", Cond.fieldLink RX12 29 "CycleStudioModel" "first" "[I", Cond.fieldLink RX12 32 "CycleStudioModel" "last" "[I", Cond.fieldLink RX12 35 "CycleStudioModel" "next" "[I", Cond.fieldLink RX12 38 "CycleStudioModel" "value" "[I", Cond.arrayClass .long, Cond.fieldLink RX12 129 "CycleStudioModel" "defA" "[J", Cond.fieldLink RX12 135 "CycleStudioModel" "defB" "[J"]
def wsX12_init_r2 : List Cond := [Cond.fieldLink RX12 231 "CycleStudioModel" "defParams" "[I", Cond.fieldLink RX12 505 "CycleStudioModel" "defBody" "[I", Cond.fieldLink RX12 249 "CycleStudioModel" "defPattern" "[I", Cond.fieldLink RX12 708 "CycleStudioModel" "holding" "[I", Cond.fieldLink RX12 132 "CycleStudioModel" "now" "[I", Cond.fieldLink RX12 119 "CycleStudioModel" "paramA" "[J", Cond.fieldLink RX12 123 "CycleStudioModel" "paramB" "[J", Cond.fieldLink RX12 138 "CycleStudioModel" "pileKind" "[I", Cond.fieldLink RX12 144 "CycleStudioModel" "pileNode" "[I", Cond.fieldLink RX12 147 "CycleStudioModel" "pileState" "[I", Cond.fieldLink RX12 150 "CycleStudioModel" "pileNumber" "[I", Cond.constant RX12 711 (103000), Cond.fieldLink RX12 375 "CycleStudioModel" "kind" "[I", Cond.fieldLink RX12 378 "CycleStudioModel" "qa" "[I", Cond.fieldLink RX12 381 "CycleStudioModel" "qb" "[I", Cond.fieldLink RX12 384 "CycleStudioModel" "qc" "[I", Cond.fieldLink RX12 387 "CycleStudioModel" "qd" "[I", Cond.fieldLink RX12 339 "CycleStudioModel" "kidFrom" "[I", Cond.fieldLink RX12 342 "CycleStudioModel" "kidMany" "[I", Cond.fieldLink RX12 351 "CycleStudioModel" "grain" "[I", Cond.fieldLink RX12 357 "CycleStudioModel" "crowd" "[I", Cond.fieldLink RX12 360 "CycleStudioModel" "reach" "[I", Cond.fieldLink RX12 363 "CycleStudioModel" "work" "[I", Cond.fieldLink RX12 366 "CycleStudioModel" "deep" "[I"]
def wsX12_init_r3 : List Cond := [Cond.constant RX12 712 (210000), Cond.fieldLink RX12 345 "CycleStudioModel" "kid" "[I", Cond.fieldLink RX12 348 "CycleStudioModel" "kidWeight" "[I", Cond.fieldLink RX12 285 "CycleStudioModel" "task" "[I", Cond.fieldLink RX12 291 "CycleStudioModel" "taskOf" "[I", Cond.fieldLink RX12 294 "CycleStudioModel" "pile" "[I", Cond.fieldLink RX12 496 "CycleStudioModel" "inUse" "[I", Cond.fieldLink RX12 554 "CycleStudioModel" "from" "[J", Cond.fieldLink RX12 557 "CycleStudioModel" "upTo" "[J", Cond.fieldLink RX12 560 "CycleStudioModel" "wordA" "[I", Cond.fieldLink RX12 563 "CycleStudioModel" "wordB" "[I", Cond.fieldLink RX12 566 "CycleStudioModel" "amount" "[I", Cond.fieldLink RX12 569 "CycleStudioModel" "has" "[I", Cond.fieldLink RX12 572 "CycleStudioModel" "soundHas" "[I", Cond.fieldLink RX12 575 "CycleStudioModel" "soundA" "[I", Cond.fieldLink RX12 578 "CycleStudioModel" "soundB" "[I", Cond.fieldLink RX12 581 "CycleStudioModel" "soundN" "[I", Cond.fieldLink RX12 514 "CycleStudioModel" "fPattern" "[I", Cond.fieldLink RX12 517 "CycleStudioModel" "fCycle" "[J", Cond.fieldLink RX12 520 "CycleStudioModel" "fState" "[I", Cond.fieldLink RX12 523 "CycleStudioModel" "fBase" "[I", Cond.fieldLink RX12 529 "CycleStudioModel" "fMark" "[I", Cond.fieldLink RX12 532 "CycleStudioModel" "fKid" "[I", Cond.fieldLink RX12 535 "CycleStudioModel" "fCount" "[I"]
def wsX12_init_r4 : List Cond := [Cond.fieldLink RX12 538 "CycleStudioModel" "fAhead" "[J", Cond.fieldLink RX12 541 "CycleStudioModel" "fRow" "[J", Cond.fieldLink RX12 544 "CycleStudioModel" "fEnd" "[J", Cond.fieldLink RX12 666 "CycleStudioModel" "turnA" "[I", Cond.fieldLink RX12 669 "CycleStudioModel" "turnB" "[I", Cond.fieldLink RX12 672 "CycleStudioModel" "turnN" "[I", Cond.fieldLink RX12 675 "CycleStudioModel" "turnHas" "[I", Cond.fieldLink RX12 713 "CycleStudioModel" "track" "[I", Cond.fieldLink RX12 716 "CycleStudioModel" "waiting" "[I", Cond.arrayClass .boolean, Cond.fieldLink RX12 719 "CycleStudioModel" "muted" "[Z", Cond.fieldLink RX12 723 "CycleStudioModel" "alone" "[Z", Cond.fieldLink RX12 726 "CycleStudioModel" "toldFault" "I", Cond.fieldLink RX12 729 "CycleStudioModel" "toldAt" "I", Cond.fieldLink RX12 732 "CycleStudioModel" "toldMany" "I", Cond.fieldLink RX12 735 "CycleStudioModel" "askedFrom" "[J", Cond.fieldLink RX12 738 "CycleStudioModel" "askedSize" "[J", Cond.fieldLink RX12 741 "CycleStudioModel" "askedA" "[I", Cond.fieldLink RX12 744 "CycleStudioModel" "askedB" "[I", Cond.fieldLink RX12 747 "CycleStudioModel" "askedN" "[I", Cond.fieldLink RX12 750 "CycleStudioModel" "askedHas" "[I", Cond.fieldLink RX12 753 "CycleStudioModel" "heardTrack" "[I", Cond.fieldLink RX12 756 "CycleStudioModel" "heardCycle" "[I", Cond.fieldLink RX12 759 "CycleStudioModel" "heardGrain" "[I"]
def wsX12_init_r5 : List Cond := [Cond.fieldLink RX12 762 "CycleStudioModel" "heardFrom" "[J", Cond.fieldLink RX12 765 "CycleStudioModel" "heardSize" "[J", Cond.fieldLink RX12 768 "CycleStudioModel" "heardA" "[I", Cond.fieldLink RX12 771 "CycleStudioModel" "heardB" "[I", Cond.fieldLink RX12 774 "CycleStudioModel" "heardN" "[I", Cond.fieldLink RX12 777 "CycleStudioModel" "heardHas" "[I", Cond.fieldLink RX12 780 "CycleStudioModel" "beatTrack" "[I", Cond.fieldLink RX12 783 "CycleStudioModel" "beatGrain" "[I", Cond.fieldLink RX12 786 "CycleStudioModel" "beatFrom" "[J", Cond.fieldLink RX12 789 "CycleStudioModel" "beatSize" "[J", Cond.fieldLink RX12 792 "CycleStudioModel" "beatA" "[I", Cond.fieldLink RX12 795 "CycleStudioModel" "beatB" "[I", Cond.fieldLink RX12 798 "CycleStudioModel" "beatN" "[I", Cond.fieldLink RX12 801 "CycleStudioModel" "beatHas" "[I", Cond.fieldLink RX12 804 "CycleStudioModel" "order" "[I"]
def wsX12_init : List Cond := .code yX12_init cX12_init 2 none :: ((wsX12_init_r1 ++ (wsX12_init_r2 ++ (wsX12_init_r3 ++ (wsX12_init_r4 ++ wsX12_init_r5)))) ++ wsX120)
theorem dX12_init_0 : decode cX12_init 0 = .ok (.aload_n 0, 1) := by decide +kernel
theorem dX12_init_1 : decode cX12_init 1 = .ok (.invokespecial 702, 3) := by decide +kernel
theorem dX12_init_4 : decode cX12_init 4 = .ok (.aload_n 0, 1) := by decide +kernel
theorem dX12_init_5 : decode cX12_init 5 = .ok (.sipush 2000, 3) := by decide +kernel
theorem dX12_init_8 : decode cX12_init 8 = .ok (.newarray .byte, 2) := by decide +kernel
theorem dX12_init_10 : decode cX12_init 10 = .ok (.putfield 50, 3) := by decide +kernel
theorem dX12_init_13 : decode cX12_init 13 = .ok (.aload_n 0, 1) := by decide +kernel
theorem dX12_init_14 : decode cX12_init 14 = .ok (.bipush 113, 2) := by decide +kernel
theorem dX12_init_16 : decode cX12_init 16 = .ok (.newarray .char, 2) := by decide +kernel
theorem dX12_init_18 : decode cX12_init 18 = .ok (.dup, 1) := by decide +kernel
theorem dX12_init_19 : decode cX12_init 19 = .ok (.iconst 0, 1) := by decide +kernel
theorem dX12_init_20 : decode cX12_init 20 = .ok (.bipush 102, 2) := by decide +kernel
theorem dX12_init_22 : decode cX12_init 22 = .ok (.castore, 1) := by decide +kernel
theorem dX12_init_23 : decode cX12_init 23 = .ok (.dup, 1) := by decide +kernel
theorem dX12_init_24 : decode cX12_init 24 = .ok (.iconst 1, 1) := by decide +kernel
theorem dX12_init_25 : decode cX12_init 25 = .ok (.bipush 97, 2) := by decide +kernel
theorem dX12_init_27 : decode cX12_init 27 = .ok (.castore, 1) := by decide +kernel
theorem dX12_init_28 : decode cX12_init 28 = .ok (.dup, 1) := by decide +kernel
theorem dX12_init_29 : decode cX12_init 29 = .ok (.iconst 2, 1) := by decide +kernel
theorem dX12_init_30 : decode cX12_init 30 = .ok (.bipush 115, 2) := by decide +kernel
theorem dX12_init_32 : decode cX12_init 32 = .ok (.castore, 1) := by decide +kernel
theorem dX12_init_33 : decode cX12_init 33 = .ok (.dup, 1) := by decide +kernel
theorem dX12_init_34 : decode cX12_init 34 = .ok (.iconst 3, 1) := by decide +kernel
theorem dX12_init_35 : decode cX12_init 35 = .ok (.bipush 116, 2) := by decide +kernel
theorem dX12_init_37 : decode cX12_init 37 = .ok (.castore, 1) := by decide +kernel
theorem dX12_init_38 : decode cX12_init 38 = .ok (.dup, 1) := by decide +kernel
theorem dX12_init_39 : decode cX12_init 39 = .ok (.iconst 4, 1) := by decide +kernel
theorem dX12_init_40 : decode cX12_init 40 = .ok (.bipush 32, 2) := by decide +kernel
theorem dX12_init_42 : decode cX12_init 42 = .ok (.castore, 1) := by decide +kernel
theorem dX12_init_43 : decode cX12_init 43 = .ok (.dup, 1) := by decide +kernel
theorem dX12_init_44 : decode cX12_init 44 = .ok (.iconst 5, 1) := by decide +kernel
theorem dX12_init_45 : decode cX12_init 45 = .ok (.bipush 115, 2) := by decide +kernel
theorem dX12_init_47 : decode cX12_init 47 = .ok (.castore, 1) := by decide +kernel
theorem dX12_init_48 : decode cX12_init 48 = .ok (.dup, 1) := by decide +kernel
theorem dX12_init_49 : decode cX12_init 49 = .ok (.bipush 6, 2) := by decide +kernel
theorem dX12_init_51 : decode cX12_init 51 = .ok (.bipush 108, 2) := by decide +kernel
theorem dX12_init_53 : decode cX12_init 53 = .ok (.castore, 1) := by decide +kernel
theorem dX12_init_54 : decode cX12_init 54 = .ok (.dup, 1) := by decide +kernel
theorem dX12_init_55 : decode cX12_init 55 = .ok (.bipush 7, 2) := by decide +kernel
theorem dX12_init_57 : decode cX12_init 57 = .ok (.bipush 111, 2) := by decide +kernel
theorem dX12_init_59 : decode cX12_init 59 = .ok (.castore, 1) := by decide +kernel
theorem dX12_init_60 : decode cX12_init 60 = .ok (.dup, 1) := by decide +kernel
theorem dX12_init_61 : decode cX12_init 61 = .ok (.bipush 8, 2) := by decide +kernel
theorem dX12_init_63 : decode cX12_init 63 = .ok (.bipush 119, 2) := by decide +kernel
theorem dX12_init_65 : decode cX12_init 65 = .ok (.castore, 1) := by decide +kernel
theorem dX12_init_66 : decode cX12_init 66 = .ok (.dup, 1) := by decide +kernel
theorem dX12_init_67 : decode cX12_init 67 = .ok (.bipush 9, 2) := by decide +kernel
theorem dX12_init_69 : decode cX12_init 69 = .ok (.bipush 32, 2) := by decide +kernel
theorem dX12_init_71 : decode cX12_init 71 = .ok (.castore, 1) := by decide +kernel
theorem dX12_init_72 : decode cX12_init 72 = .ok (.dup, 1) := by decide +kernel
theorem dX12_init_73 : decode cX12_init 73 = .ok (.bipush 10, 2) := by decide +kernel
theorem dX12_init_75 : decode cX12_init 75 = .ok (.bipush 101, 2) := by decide +kernel
theorem dX12_init_77 : decode cX12_init 77 = .ok (.castore, 1) := by decide +kernel
theorem dX12_init_78 : decode cX12_init 78 = .ok (.dup, 1) := by decide +kernel
theorem dX12_init_79 : decode cX12_init 79 = .ok (.bipush 11, 2) := by decide +kernel
theorem dX12_init_81 : decode cX12_init 81 = .ok (.bipush 97, 2) := by decide +kernel
theorem dX12_init_83 : decode cX12_init 83 = .ok (.castore, 1) := by decide +kernel
theorem dX12_init_84 : decode cX12_init 84 = .ok (.dup, 1) := by decide +kernel
theorem dX12_init_85 : decode cX12_init 85 = .ok (.bipush 12, 2) := by decide +kernel
theorem dX12_init_87 : decode cX12_init 87 = .ok (.bipush 114, 2) := by decide +kernel
theorem dX12_init_89 : decode cX12_init 89 = .ok (.castore, 1) := by decide +kernel
theorem dX12_init_90 : decode cX12_init 90 = .ok (.dup, 1) := by decide +kernel
theorem dX12_init_91 : decode cX12_init 91 = .ok (.bipush 13, 2) := by decide +kernel
theorem dX12_init_93 : decode cX12_init 93 = .ok (.bipush 108, 2) := by decide +kernel
theorem dX12_init_95 : decode cX12_init 95 = .ok (.castore, 1) := by decide +kernel
theorem dX12_init_96 : decode cX12_init 96 = .ok (.dup, 1) := by decide +kernel
theorem dX12_init_97 : decode cX12_init 97 = .ok (.bipush 14, 2) := by decide +kernel
theorem dX12_init_99 : decode cX12_init 99 = .ok (.bipush 121, 2) := by decide +kernel
theorem dX12_init_101 : decode cX12_init 101 = .ok (.castore, 1) := by decide +kernel
theorem dX12_init_102 : decode cX12_init 102 = .ok (.dup, 1) := by decide +kernel
theorem dX12_init_103 : decode cX12_init 103 = .ok (.bipush 15, 2) := by decide +kernel
theorem dX12_init_105 : decode cX12_init 105 = .ok (.bipush 32, 2) := by decide +kernel
theorem dX12_init_107 : decode cX12_init 107 = .ok (.castore, 1) := by decide +kernel
theorem dX12_init_108 : decode cX12_init 108 = .ok (.dup, 1) := by decide +kernel
theorem dX12_init_109 : decode cX12_init 109 = .ok (.bipush 16, 2) := by decide +kernel
theorem dX12_init_111 : decode cX12_init 111 = .ok (.bipush 108, 2) := by decide +kernel
theorem dX12_init_113 : decode cX12_init 113 = .ok (.castore, 1) := by decide +kernel
theorem dX12_init_114 : decode cX12_init 114 = .ok (.dup, 1) := by decide +kernel
theorem dX12_init_115 : decode cX12_init 115 = .ok (.bipush 17, 2) := by decide +kernel
theorem dX12_init_117 : decode cX12_init 117 = .ok (.bipush 97, 2) := by decide +kernel
theorem dX12_init_119 : decode cX12_init 119 = .ok (.castore, 1) := by decide +kernel
theorem dX12_init_120 : decode cX12_init 120 = .ok (.dup, 1) := by decide +kernel
theorem dX12_init_121 : decode cX12_init 121 = .ok (.bipush 18, 2) := by decide +kernel
theorem dX12_init_123 : decode cX12_init 123 = .ok (.bipush 116, 2) := by decide +kernel
theorem dX12_init_125 : decode cX12_init 125 = .ok (.castore, 1) := by decide +kernel
theorem dX12_init_126 : decode cX12_init 126 = .ok (.dup, 1) := by decide +kernel
theorem dX12_init_127 : decode cX12_init 127 = .ok (.bipush 19, 2) := by decide +kernel
theorem dX12_init_129 : decode cX12_init 129 = .ok (.bipush 101, 2) := by decide +kernel
theorem dX12_init_131 : decode cX12_init 131 = .ok (.castore, 1) := by decide +kernel
theorem dX12_init_132 : decode cX12_init 132 = .ok (.dup, 1) := by decide +kernel
theorem dX12_init_133 : decode cX12_init 133 = .ok (.bipush 20, 2) := by decide +kernel
theorem dX12_init_135 : decode cX12_init 135 = .ok (.bipush 32, 2) := by decide +kernel
theorem dX12_init_137 : decode cX12_init 137 = .ok (.castore, 1) := by decide +kernel
theorem dX12_init_138 : decode cX12_init 138 = .ok (.dup, 1) := by decide +kernel
theorem dX12_init_139 : decode cX12_init 139 = .ok (.bipush 21, 2) := by decide +kernel
theorem dX12_init_141 : decode cX12_init 141 = .ok (.bipush 114, 2) := by decide +kernel
theorem dX12_init_143 : decode cX12_init 143 = .ok (.castore, 1) := by decide +kernel
theorem dX12_init_144 : decode cX12_init 144 = .ok (.dup, 1) := by decide +kernel
theorem dX12_init_145 : decode cX12_init 145 = .ok (.bipush 22, 2) := by decide +kernel
theorem dX12_init_147 : decode cX12_init 147 = .ok (.bipush 101, 2) := by decide +kernel
theorem dX12_init_149 : decode cX12_init 149 = .ok (.castore, 1) := by decide +kernel
theorem dX12_init_150 : decode cX12_init 150 = .ok (.dup, 1) := by decide +kernel
theorem dX12_init_151 : decode cX12_init 151 = .ok (.bipush 23, 2) := by decide +kernel
theorem dX12_init_153 : decode cX12_init 153 = .ok (.bipush 118, 2) := by decide +kernel
theorem dX12_init_155 : decode cX12_init 155 = .ok (.castore, 1) := by decide +kernel
theorem dX12_init_156 : decode cX12_init 156 = .ok (.dup, 1) := by decide +kernel
theorem dX12_init_157 : decode cX12_init 157 = .ok (.bipush 24, 2) := by decide +kernel
theorem dX12_init_159 : decode cX12_init 159 = .ok (.bipush 32, 2) := by decide +kernel
theorem dX12_init_161 : decode cX12_init 161 = .ok (.castore, 1) := by decide +kernel
theorem dX12_init_162 : decode cX12_init 162 = .ok (.dup, 1) := by decide +kernel
theorem dX12_init_163 : decode cX12_init 163 = .ok (.bipush 25, 2) := by decide +kernel
theorem dX12_init_165 : decode cX12_init 165 = .ok (.bipush 101, 2) := by decide +kernel
theorem dX12_init_167 : decode cX12_init 167 = .ok (.castore, 1) := by decide +kernel
theorem dX12_init_168 : decode cX12_init 168 = .ok (.dup, 1) := by decide +kernel
theorem dX12_init_169 : decode cX12_init 169 = .ok (.bipush 26, 2) := by decide +kernel
theorem dX12_init_171 : decode cX12_init 171 = .ok (.bipush 118, 2) := by decide +kernel
theorem dX12_init_173 : decode cX12_init 173 = .ok (.castore, 1) := by decide +kernel
theorem dX12_init_174 : decode cX12_init 174 = .ok (.dup, 1) := by decide +kernel
theorem dX12_init_175 : decode cX12_init 175 = .ok (.bipush 27, 2) := by decide +kernel
theorem dX12_init_177 : decode cX12_init 177 = .ok (.bipush 101, 2) := by decide +kernel
theorem dX12_init_179 : decode cX12_init 179 = .ok (.castore, 1) := by decide +kernel
theorem dX12_init_180 : decode cX12_init 180 = .ok (.dup, 1) := by decide +kernel
theorem dX12_init_181 : decode cX12_init 181 = .ok (.bipush 28, 2) := by decide +kernel
theorem dX12_init_183 : decode cX12_init 183 = .ok (.bipush 114, 2) := by decide +kernel
theorem dX12_init_185 : decode cX12_init 185 = .ok (.castore, 1) := by decide +kernel
theorem dX12_init_186 : decode cX12_init 186 = .ok (.dup, 1) := by decide +kernel
theorem dX12_init_187 : decode cX12_init 187 = .ok (.bipush 29, 2) := by decide +kernel
theorem dX12_init_189 : decode cX12_init 189 = .ok (.bipush 121, 2) := by decide +kernel
theorem dX12_init_191 : decode cX12_init 191 = .ok (.castore, 1) := by decide +kernel
theorem dX12_init_192 : decode cX12_init 192 = .ok (.dup, 1) := by decide +kernel
theorem dX12_init_193 : decode cX12_init 193 = .ok (.bipush 30, 2) := by decide +kernel
theorem dX12_init_195 : decode cX12_init 195 = .ok (.bipush 32, 2) := by decide +kernel
theorem dX12_init_197 : decode cX12_init 197 = .ok (.castore, 1) := by decide +kernel
theorem dX12_init_198 : decode cX12_init 198 = .ok (.dup, 1) := by decide +kernel
theorem dX12_init_199 : decode cX12_init 199 = .ok (.bipush 31, 2) := by decide +kernel
theorem dX12_init_201 : decode cX12_init 201 = .ok (.bipush 119, 2) := by decide +kernel
theorem dX12_init_203 : decode cX12_init 203 = .ok (.castore, 1) := by decide +kernel
theorem dX12_init_204 : decode cX12_init 204 = .ok (.dup, 1) := by decide +kernel
theorem dX12_init_205 : decode cX12_init 205 = .ok (.bipush 32, 2) := by decide +kernel
theorem dX12_init_207 : decode cX12_init 207 = .ok (.bipush 104, 2) := by decide +kernel
theorem dX12_init_209 : decode cX12_init 209 = .ok (.castore, 1) := by decide +kernel
theorem dX12_init_210 : decode cX12_init 210 = .ok (.dup, 1) := by decide +kernel
theorem dX12_init_211 : decode cX12_init 211 = .ok (.bipush 33, 2) := by decide +kernel
theorem dX12_init_213 : decode cX12_init 213 = .ok (.bipush 101, 2) := by decide +kernel
theorem dX12_init_215 : decode cX12_init 215 = .ok (.castore, 1) := by decide +kernel
theorem dX12_init_216 : decode cX12_init 216 = .ok (.dup, 1) := by decide +kernel
theorem dX12_init_217 : decode cX12_init 217 = .ok (.bipush 34, 2) := by decide +kernel
theorem dX12_init_219 : decode cX12_init 219 = .ok (.bipush 110, 2) := by decide +kernel
theorem dX12_init_221 : decode cX12_init 221 = .ok (.castore, 1) := by decide +kernel
theorem dX12_init_222 : decode cX12_init 222 = .ok (.dup, 1) := by decide +kernel
theorem dX12_init_223 : decode cX12_init 223 = .ok (.bipush 35, 2) := by decide +kernel
theorem dX12_init_225 : decode cX12_init 225 = .ok (.bipush 32, 2) := by decide +kernel
theorem dX12_init_227 : decode cX12_init 227 = .ok (.castore, 1) := by decide +kernel
theorem dX12_init_228 : decode cX12_init 228 = .ok (.dup, 1) := by decide +kernel
theorem dX12_init_229 : decode cX12_init 229 = .ok (.bipush 36, 2) := by decide +kernel
theorem dX12_init_231 : decode cX12_init 231 = .ok (.bipush 111, 2) := by decide +kernel
theorem dX12_init_233 : decode cX12_init 233 = .ok (.castore, 1) := by decide +kernel
theorem dX12_init_234 : decode cX12_init 234 = .ok (.dup, 1) := by decide +kernel
theorem dX12_init_235 : decode cX12_init 235 = .ok (.bipush 37, 2) := by decide +kernel
theorem dX12_init_237 : decode cX12_init 237 = .ok (.bipush 102, 2) := by decide +kernel
theorem dX12_init_239 : decode cX12_init 239 = .ok (.castore, 1) := by decide +kernel
theorem dX12_init_240 : decode cX12_init 240 = .ok (.dup, 1) := by decide +kernel
theorem dX12_init_241 : decode cX12_init 241 = .ok (.bipush 38, 2) := by decide +kernel
theorem dX12_init_243 : decode cX12_init 243 = .ok (.bipush 102, 2) := by decide +kernel
theorem dX12_init_245 : decode cX12_init 245 = .ok (.castore, 1) := by decide +kernel
theorem dX12_init_246 : decode cX12_init 246 = .ok (.dup, 1) := by decide +kernel
theorem dX12_init_247 : decode cX12_init 247 = .ok (.bipush 39, 2) := by decide +kernel
theorem dX12_init_249 : decode cX12_init 249 = .ok (.bipush 32, 2) := by decide +kernel
theorem dX12_init_251 : decode cX12_init 251 = .ok (.castore, 1) := by decide +kernel
theorem dX12_init_252 : decode cX12_init 252 = .ok (.dup, 1) := by decide +kernel
theorem dX12_init_253 : decode cX12_init 253 = .ok (.bipush 40, 2) := by decide +kernel
theorem dX12_init_255 : decode cX12_init 255 = .ok (.bipush 111, 2) := by decide +kernel
theorem dX12_init_257 : decode cX12_init 257 = .ok (.castore, 1) := by decide +kernel
theorem dX12_init_258 : decode cX12_init 258 = .ok (.dup, 1) := by decide +kernel
theorem dX12_init_259 : decode cX12_init 259 = .ok (.bipush 41, 2) := by decide +kernel
theorem dX12_init_261 : decode cX12_init 261 = .ok (.bipush 118, 2) := by decide +kernel
theorem dX12_init_263 : decode cX12_init 263 = .ok (.castore, 1) := by decide +kernel
theorem dX12_init_264 : decode cX12_init 264 = .ok (.dup, 1) := by decide +kernel
theorem dX12_init_265 : decode cX12_init 265 = .ok (.bipush 42, 2) := by decide +kernel
theorem dX12_init_267 : decode cX12_init 267 = .ok (.bipush 101, 2) := by decide +kernel
theorem dX12_init_269 : decode cX12_init 269 = .ok (.castore, 1) := by decide +kernel
theorem dX12_init_270 : decode cX12_init 270 = .ok (.dup, 1) := by decide +kernel
theorem dX12_init_271 : decode cX12_init 271 = .ok (.bipush 43, 2) := by decide +kernel
theorem dX12_init_273 : decode cX12_init 273 = .ok (.bipush 114, 2) := by decide +kernel
theorem dX12_init_275 : decode cX12_init 275 = .ok (.castore, 1) := by decide +kernel
theorem dX12_init_276 : decode cX12_init 276 = .ok (.dup, 1) := by decide +kernel
theorem dX12_init_277 : decode cX12_init 277 = .ok (.bipush 44, 2) := by decide +kernel
theorem dX12_init_279 : decode cX12_init 279 = .ok (.bipush 32, 2) := by decide +kernel
theorem dX12_init_281 : decode cX12_init 281 = .ok (.castore, 1) := by decide +kernel
theorem dX12_init_282 : decode cX12_init 282 = .ok (.dup, 1) := by decide +kernel
theorem dX12_init_283 : decode cX12_init 283 = .ok (.bipush 45, 2) := by decide +kernel
theorem dX12_init_285 : decode cX12_init 285 = .ok (.bipush 105, 2) := by decide +kernel
theorem dX12_init_287 : decode cX12_init 287 = .ok (.castore, 1) := by decide +kernel
theorem dX12_init_288 : decode cX12_init 288 = .ok (.dup, 1) := by decide +kernel
theorem dX12_init_289 : decode cX12_init 289 = .ok (.bipush 46, 2) := by decide +kernel
theorem dX12_init_291 : decode cX12_init 291 = .ok (.bipush 116, 2) := by decide +kernel
theorem dX12_init_293 : decode cX12_init 293 = .ok (.castore, 1) := by decide +kernel
theorem dX12_init_294 : decode cX12_init 294 = .ok (.dup, 1) := by decide +kernel
theorem dX12_init_295 : decode cX12_init 295 = .ok (.bipush 47, 2) := by decide +kernel
theorem dX12_init_297 : decode cX12_init 297 = .ok (.bipush 101, 2) := by decide +kernel
theorem dX12_init_299 : decode cX12_init 299 = .ok (.castore, 1) := by decide +kernel
theorem dX12_init_300 : decode cX12_init 300 = .ok (.dup, 1) := by decide +kernel
theorem dX12_init_301 : decode cX12_init 301 = .ok (.bipush 48, 2) := by decide +kernel
theorem dX12_init_303 : decode cX12_init 303 = .ok (.bipush 114, 2) := by decide +kernel
theorem dX12_init_305 : decode cX12_init 305 = .ok (.castore, 1) := by decide +kernel
theorem dX12_init_306 : decode cX12_init 306 = .ok (.dup, 1) := by decide +kernel
theorem dX12_init_307 : decode cX12_init 307 = .ok (.bipush 49, 2) := by decide +kernel
theorem dX12_init_309 : decode cX12_init 309 = .ok (.bipush 32, 2) := by decide +kernel
theorem dX12_init_311 : decode cX12_init 311 = .ok (.castore, 1) := by decide +kernel
theorem dX12_init_312 : decode cX12_init 312 = .ok (.dup, 1) := by decide +kernel
theorem dX12_init_313 : decode cX12_init 313 = .ok (.bipush 50, 2) := by decide +kernel
theorem dX12_init_315 : decode cX12_init 315 = .ok (.bipush 112, 2) := by decide +kernel
theorem dX12_init_317 : decode cX12_init 317 = .ok (.castore, 1) := by decide +kernel
theorem dX12_init_318 : decode cX12_init 318 = .ok (.dup, 1) := by decide +kernel
theorem dX12_init_319 : decode cX12_init 319 = .ok (.bipush 51, 2) := by decide +kernel
theorem dX12_init_321 : decode cX12_init 321 = .ok (.bipush 108, 2) := by decide +kernel
theorem dX12_init_323 : decode cX12_init 323 = .ok (.castore, 1) := by decide +kernel
theorem dX12_init_324 : decode cX12_init 324 = .ok (.dup, 1) := by decide +kernel
theorem dX12_init_325 : decode cX12_init 325 = .ok (.bipush 52, 2) := by decide +kernel
theorem dX12_init_327 : decode cX12_init 327 = .ok (.bipush 121, 2) := by decide +kernel
theorem dX12_init_329 : decode cX12_init 329 = .ok (.castore, 1) := by decide +kernel
theorem dX12_init_330 : decode cX12_init 330 = .ok (.dup, 1) := by decide +kernel
theorem dX12_init_331 : decode cX12_init 331 = .ok (.bipush 53, 2) := by decide +kernel
theorem dX12_init_333 : decode cX12_init 333 = .ok (.bipush 32, 2) := by decide +kernel
theorem dX12_init_335 : decode cX12_init 335 = .ok (.castore, 1) := by decide +kernel
theorem dX12_init_336 : decode cX12_init 336 = .ok (.dup, 1) := by decide +kernel
theorem dX12_init_337 : decode cX12_init 337 = .ok (.bipush 54, 2) := by decide +kernel
theorem dX12_init_339 : decode cX12_init 339 = .ok (.bipush 99, 2) := by decide +kernel
theorem dX12_init_341 : decode cX12_init 341 = .ok (.castore, 1) := by decide +kernel
theorem dX12_init_342 : decode cX12_init 342 = .ok (.dup, 1) := by decide +kernel
theorem dX12_init_343 : decode cX12_init 343 = .ok (.bipush 55, 2) := by decide +kernel
theorem dX12_init_345 : decode cX12_init 345 = .ok (.bipush 104, 2) := by decide +kernel
theorem dX12_init_347 : decode cX12_init 347 = .ok (.castore, 1) := by decide +kernel
theorem dX12_init_348 : decode cX12_init 348 = .ok (.dup, 1) := by decide +kernel
theorem dX12_init_349 : decode cX12_init 349 = .ok (.bipush 56, 2) := by decide +kernel
theorem dX12_init_351 : decode cX12_init 351 = .ok (.bipush 117, 2) := by decide +kernel
theorem dX12_init_353 : decode cX12_init 353 = .ok (.castore, 1) := by decide +kernel
theorem dX12_init_354 : decode cX12_init 354 = .ok (.dup, 1) := by decide +kernel
theorem dX12_init_355 : decode cX12_init 355 = .ok (.bipush 57, 2) := by decide +kernel
theorem dX12_init_357 : decode cX12_init 357 = .ok (.bipush 110, 2) := by decide +kernel
theorem dX12_init_359 : decode cX12_init 359 = .ok (.castore, 1) := by decide +kernel
theorem dX12_init_360 : decode cX12_init 360 = .ok (.dup, 1) := by decide +kernel
theorem dX12_init_361 : decode cX12_init 361 = .ok (.bipush 58, 2) := by decide +kernel
theorem dX12_init_363 : decode cX12_init 363 = .ok (.bipush 107, 2) := by decide +kernel
theorem dX12_init_365 : decode cX12_init 365 = .ok (.castore, 1) := by decide +kernel
theorem dX12_init_366 : decode cX12_init 366 = .ok (.dup, 1) := by decide +kernel
theorem dX12_init_367 : decode cX12_init 367 = .ok (.bipush 59, 2) := by decide +kernel
theorem dX12_init_369 : decode cX12_init 369 = .ok (.bipush 32, 2) := by decide +kernel
theorem dX12_init_371 : decode cX12_init 371 = .ok (.castore, 1) := by decide +kernel
theorem dX12_init_372 : decode cX12_init 372 = .ok (.dup, 1) := by decide +kernel
theorem dX12_init_373 : decode cX12_init 373 = .ok (.bipush 60, 2) := by decide +kernel
theorem dX12_init_375 : decode cX12_init 375 = .ok (.bipush 105, 2) := by decide +kernel
theorem dX12_init_377 : decode cX12_init 377 = .ok (.castore, 1) := by decide +kernel
theorem dX12_init_378 : decode cX12_init 378 = .ok (.dup, 1) := by decide +kernel
theorem dX12_init_379 : decode cX12_init 379 = .ok (.bipush 61, 2) := by decide +kernel
theorem dX12_init_381 : decode cX12_init 381 = .ok (.bipush 110, 2) := by decide +kernel
theorem dX12_init_383 : decode cX12_init 383 = .ok (.castore, 1) := by decide +kernel
theorem dX12_init_384 : decode cX12_init 384 = .ok (.dup, 1) := by decide +kernel
theorem dX12_init_385 : decode cX12_init 385 = .ok (.bipush 62, 2) := by decide +kernel
theorem dX12_init_387 : decode cX12_init 387 = .ok (.bipush 115, 2) := by decide +kernel
theorem dX12_init_389 : decode cX12_init 389 = .ok (.castore, 1) := by decide +kernel
theorem dX12_init_390 : decode cX12_init 390 = .ok (.dup, 1) := by decide +kernel
theorem dX12_init_391 : decode cX12_init 391 = .ok (.bipush 63, 2) := by decide +kernel
theorem dX12_init_393 : decode cX12_init 393 = .ok (.bipush 105, 2) := by decide +kernel
theorem dX12_init_395 : decode cX12_init 395 = .ok (.castore, 1) := by decide +kernel
theorem dX12_init_396 : decode cX12_init 396 = .ok (.dup, 1) := by decide +kernel
theorem dX12_init_397 : decode cX12_init 397 = .ok (.bipush 64, 2) := by decide +kernel
theorem dX12_init_399 : decode cX12_init 399 = .ok (.bipush 100, 2) := by decide +kernel
theorem dX12_init_401 : decode cX12_init 401 = .ok (.castore, 1) := by decide +kernel
theorem dX12_init_402 : decode cX12_init 402 = .ok (.dup, 1) := by decide +kernel
theorem dX12_init_403 : decode cX12_init 403 = .ok (.bipush 65, 2) := by decide +kernel
theorem dX12_init_405 : decode cX12_init 405 = .ok (.bipush 101, 2) := by decide +kernel
theorem dX12_init_407 : decode cX12_init 407 = .ok (.castore, 1) := by decide +kernel
theorem dX12_init_408 : decode cX12_init 408 = .ok (.dup, 1) := by decide +kernel
theorem dX12_init_409 : decode cX12_init 409 = .ok (.bipush 66, 2) := by decide +kernel
theorem dX12_init_411 : decode cX12_init 411 = .ok (.bipush 32, 2) := by decide +kernel
theorem dX12_init_413 : decode cX12_init 413 = .ok (.castore, 1) := by decide +kernel
theorem dX12_init_414 : decode cX12_init 414 = .ok (.dup, 1) := by decide +kernel
theorem dX12_init_415 : decode cX12_init 415 = .ok (.bipush 67, 2) := by decide +kernel
theorem dX12_init_417 : decode cX12_init 417 = .ok (.bipush 114, 2) := by decide +kernel
theorem dX12_init_419 : decode cX12_init 419 = .ok (.castore, 1) := by decide +kernel
theorem dX12_init_420 : decode cX12_init 420 = .ok (.dup, 1) := by decide +kernel
theorem dX12_init_421 : decode cX12_init 421 = .ok (.bipush 68, 2) := by decide +kernel
theorem dX12_init_423 : decode cX12_init 423 = .ok (.bipush 111, 2) := by decide +kernel
theorem dX12_init_425 : decode cX12_init 425 = .ok (.castore, 1) := by decide +kernel
theorem dX12_init_426 : decode cX12_init 426 = .ok (.dup, 1) := by decide +kernel
theorem dX12_init_427 : decode cX12_init 427 = .ok (.bipush 69, 2) := by decide +kernel
theorem dX12_init_429 : decode cX12_init 429 = .ok (.bipush 116, 2) := by decide +kernel
theorem dX12_init_431 : decode cX12_init 431 = .ok (.castore, 1) := by decide +kernel
theorem dX12_init_432 : decode cX12_init 432 = .ok (.dup, 1) := by decide +kernel
theorem dX12_init_433 : decode cX12_init 433 = .ok (.bipush 70, 2) := by decide +kernel
theorem dX12_init_435 : decode cX12_init 435 = .ok (.bipush 32, 2) := by decide +kernel
theorem dX12_init_437 : decode cX12_init 437 = .ok (.castore, 1) := by decide +kernel
theorem dX12_init_438 : decode cX12_init 438 = .ok (.dup, 1) := by decide +kernel
theorem dX12_init_439 : decode cX12_init 439 = .ok (.bipush 71, 2) := by decide +kernel
theorem dX12_init_441 : decode cX12_init 441 = .ok (.bipush 115, 2) := by decide +kernel
theorem dX12_init_443 : decode cX12_init 443 = .ok (.castore, 1) := by decide +kernel
theorem dX12_init_444 : decode cX12_init 444 = .ok (.dup, 1) := by decide +kernel
theorem dX12_init_445 : decode cX12_init 445 = .ok (.bipush 72, 2) := by decide +kernel
theorem dX12_init_447 : decode cX12_init 447 = .ok (.bipush 116, 2) := by decide +kernel
theorem dX12_init_449 : decode cX12_init 449 = .ok (.castore, 1) := by decide +kernel
theorem dX12_init_450 : decode cX12_init 450 = .ok (.dup, 1) := by decide +kernel
theorem dX12_init_451 : decode cX12_init 451 = .ok (.bipush 73, 2) := by decide +kernel
theorem dX12_init_453 : decode cX12_init 453 = .ok (.bipush 114, 2) := by decide +kernel
theorem dX12_init_455 : decode cX12_init 455 = .ok (.castore, 1) := by decide +kernel
theorem dX12_init_456 : decode cX12_init 456 = .ok (.dup, 1) := by decide +kernel
theorem dX12_init_457 : decode cX12_init 457 = .ok (.bipush 74, 2) := by decide +kernel
theorem dX12_init_459 : decode cX12_init 459 = .ok (.bipush 117, 2) := by decide +kernel
theorem dX12_init_461 : decode cX12_init 461 = .ok (.castore, 1) := by decide +kernel
theorem dX12_init_462 : decode cX12_init 462 = .ok (.dup, 1) := by decide +kernel
theorem dX12_init_463 : decode cX12_init 463 = .ok (.bipush 75, 2) := by decide +kernel
theorem dX12_init_465 : decode cX12_init 465 = .ok (.bipush 99, 2) := by decide +kernel
theorem dX12_init_467 : decode cX12_init 467 = .ok (.castore, 1) := by decide +kernel
theorem dX12_init_468 : decode cX12_init 468 = .ok (.dup, 1) := by decide +kernel
theorem dX12_init_469 : decode cX12_init 469 = .ok (.bipush 76, 2) := by decide +kernel
theorem dX12_init_471 : decode cX12_init 471 = .ok (.bipush 116, 2) := by decide +kernel
theorem dX12_init_473 : decode cX12_init 473 = .ok (.castore, 1) := by decide +kernel
theorem dX12_init_474 : decode cX12_init 474 = .ok (.dup, 1) := by decide +kernel
theorem dX12_init_475 : decode cX12_init 475 = .ok (.bipush 77, 2) := by decide +kernel
theorem dX12_init_477 : decode cX12_init 477 = .ok (.bipush 32, 2) := by decide +kernel
theorem dX12_init_479 : decode cX12_init 479 = .ok (.castore, 1) := by decide +kernel
theorem dX12_init_480 : decode cX12_init 480 = .ok (.dup, 1) := by decide +kernel
theorem dX12_init_481 : decode cX12_init 481 = .ok (.bipush 78, 2) := by decide +kernel
theorem dX12_init_483 : decode cX12_init 483 = .ok (.bipush 109, 2) := by decide +kernel
theorem dX12_init_485 : decode cX12_init 485 = .ok (.castore, 1) := by decide +kernel
theorem dX12_init_486 : decode cX12_init 486 = .ok (.dup, 1) := by decide +kernel
theorem dX12_init_487 : decode cX12_init 487 = .ok (.bipush 79, 2) := by decide +kernel
theorem dX12_init_489 : decode cX12_init 489 = .ok (.bipush 97, 2) := by decide +kernel
theorem dX12_init_491 : decode cX12_init 491 = .ok (.castore, 1) := by decide +kernel
theorem dX12_init_492 : decode cX12_init 492 = .ok (.dup, 1) := by decide +kernel
theorem dX12_init_493 : decode cX12_init 493 = .ok (.bipush 80, 2) := by decide +kernel
theorem dX12_init_495 : decode cX12_init 495 = .ok (.bipush 115, 2) := by decide +kernel
theorem dX12_init_497 : decode cX12_init 497 = .ok (.castore, 1) := by decide +kernel
theorem dX12_init_498 : decode cX12_init 498 = .ok (.dup, 1) := by decide +kernel
theorem dX12_init_499 : decode cX12_init 499 = .ok (.bipush 81, 2) := by decide +kernel
theorem dX12_init_501 : decode cX12_init 501 = .ok (.bipush 107, 2) := by decide +kernel
theorem dX12_init_503 : decode cX12_init 503 = .ok (.castore, 1) := by decide +kernel
theorem dX12_init_504 : decode cX12_init 504 = .ok (.dup, 1) := by decide +kernel
theorem dX12_init_505 : decode cX12_init 505 = .ok (.bipush 82, 2) := by decide +kernel
theorem dX12_init_507 : decode cX12_init 507 = .ok (.bipush 32, 2) := by decide +kernel
theorem dX12_init_509 : decode cX12_init 509 = .ok (.castore, 1) := by decide +kernel
theorem dX12_init_510 : decode cX12_init 510 = .ok (.dup, 1) := by decide +kernel
theorem dX12_init_511 : decode cX12_init 511 = .ok (.bipush 83, 2) := by decide +kernel
theorem dX12_init_513 : decode cX12_init 513 = .ok (.bipush 100, 2) := by decide +kernel
theorem dX12_init_515 : decode cX12_init 515 = .ok (.castore, 1) := by decide +kernel
theorem dX12_init_516 : decode cX12_init 516 = .ok (.dup, 1) := by decide +kernel
theorem dX12_init_517 : decode cX12_init 517 = .ok (.bipush 84, 2) := by decide +kernel
theorem dX12_init_519 : decode cX12_init 519 = .ok (.bipush 114, 2) := by decide +kernel
theorem dX12_init_521 : decode cX12_init 521 = .ok (.castore, 1) := by decide +kernel
theorem dX12_init_522 : decode cX12_init 522 = .ok (.dup, 1) := by decide +kernel
theorem dX12_init_523 : decode cX12_init 523 = .ok (.bipush 85, 2) := by decide +kernel
theorem dX12_init_525 : decode cX12_init 525 = .ok (.bipush 111, 2) := by decide +kernel
theorem dX12_init_527 : decode cX12_init 527 = .ok (.castore, 1) := by decide +kernel
theorem dX12_init_528 : decode cX12_init 528 = .ok (.dup, 1) := by decide +kernel
theorem dX12_init_529 : decode cX12_init 529 = .ok (.bipush 86, 2) := by decide +kernel
theorem dX12_init_531 : decode cX12_init 531 = .ok (.bipush 112, 2) := by decide +kernel
theorem dX12_init_533 : decode cX12_init 533 = .ok (.castore, 1) := by decide +kernel
theorem dX12_init_534 : decode cX12_init 534 = .ok (.dup, 1) := by decide +kernel
theorem dX12_init_535 : decode cX12_init 535 = .ok (.bipush 87, 2) := by decide +kernel
theorem dX12_init_537 : decode cX12_init 537 = .ok (.bipush 32, 2) := by decide +kernel
theorem dX12_init_539 : decode cX12_init 539 = .ok (.castore, 1) := by decide +kernel
theorem dX12_init_540 : decode cX12_init 540 = .ok (.dup, 1) := by decide +kernel
theorem dX12_init_541 : decode cX12_init 541 = .ok (.bipush 88, 2) := by decide +kernel
theorem dX12_init_543 : decode cX12_init 543 = .ok (.bipush 107, 2) := by decide +kernel
theorem dX12_init_545 : decode cX12_init 545 = .ok (.castore, 1) := by decide +kernel
theorem dX12_init_546 : decode cX12_init 546 = .ok (.dup, 1) := by decide +kernel
theorem dX12_init_547 : decode cX12_init 547 = .ok (.bipush 89, 2) := by decide +kernel
theorem dX12_init_549 : decode cX12_init 549 = .ok (.bipush 101, 2) := by decide +kernel
theorem dX12_init_551 : decode cX12_init 551 = .ok (.castore, 1) := by decide +kernel
theorem dX12_init_552 : decode cX12_init 552 = .ok (.dup, 1) := by decide +kernel
theorem dX12_init_553 : decode cX12_init 553 = .ok (.bipush 90, 2) := by decide +kernel
theorem dX12_init_555 : decode cX12_init 555 = .ok (.bipush 101, 2) := by decide +kernel
theorem dX12_init_557 : decode cX12_init 557 = .ok (.castore, 1) := by decide +kernel
theorem dX12_init_558 : decode cX12_init 558 = .ok (.dup, 1) := by decide +kernel
theorem dX12_init_559 : decode cX12_init 559 = .ok (.bipush 91, 2) := by decide +kernel
theorem dX12_init_561 : decode cX12_init 561 = .ok (.bipush 112, 2) := by decide +kernel
theorem dX12_init_563 : decode cX12_init 563 = .ok (.castore, 1) := by decide +kernel
theorem dX12_init_564 : decode cX12_init 564 = .ok (.dup, 1) := by decide +kernel
theorem dX12_init_565 : decode cX12_init 565 = .ok (.bipush 92, 2) := by decide +kernel
theorem dX12_init_567 : decode cX12_init 567 = .ok (.bipush 32, 2) := by decide +kernel
theorem dX12_init_569 : decode cX12_init 569 = .ok (.castore, 1) := by decide +kernel
theorem dX12_init_570 : decode cX12_init 570 = .ok (.dup, 1) := by decide +kernel
theorem dX12_init_571 : decode cX12_init 571 = .ok (.bipush 93, 2) := by decide +kernel
theorem dX12_init_573 : decode cX12_init 573 = .ok (.bipush 115, 2) := by decide +kernel
theorem dX12_init_575 : decode cX12_init 575 = .ok (.castore, 1) := by decide +kernel
theorem dX12_init_576 : decode cX12_init 576 = .ok (.dup, 1) := by decide +kernel
theorem dX12_init_577 : decode cX12_init 577 = .ok (.bipush 94, 2) := by decide +kernel
theorem dX12_init_579 : decode cX12_init 579 = .ok (.bipush 111, 2) := by decide +kernel
theorem dX12_init_581 : decode cX12_init 581 = .ok (.castore, 1) := by decide +kernel
theorem dX12_init_582 : decode cX12_init 582 = .ok (.dup, 1) := by decide +kernel
theorem dX12_init_583 : decode cX12_init 583 = .ok (.bipush 95, 2) := by decide +kernel
theorem dX12_init_585 : decode cX12_init 585 = .ok (.bipush 109, 2) := by decide +kernel
theorem dX12_init_587 : decode cX12_init 587 = .ok (.castore, 1) := by decide +kernel
theorem dX12_init_588 : decode cX12_init 588 = .ok (.dup, 1) := by decide +kernel
theorem dX12_init_589 : decode cX12_init 589 = .ok (.bipush 96, 2) := by decide +kernel
theorem dX12_init_591 : decode cX12_init 591 = .ok (.bipush 101, 2) := by decide +kernel
theorem dX12_init_593 : decode cX12_init 593 = .ok (.castore, 1) := by decide +kernel
theorem dX12_init_594 : decode cX12_init 594 = .ok (.dup, 1) := by decide +kernel
theorem dX12_init_595 : decode cX12_init 595 = .ok (.bipush 97, 2) := by decide +kernel
theorem dX12_init_597 : decode cX12_init 597 = .ok (.bipush 32, 2) := by decide +kernel
theorem dX12_init_599 : decode cX12_init 599 = .ok (.castore, 1) := by decide +kernel
theorem dX12_init_600 : decode cX12_init 600 = .ok (.dup, 1) := by decide +kernel
theorem dX12_init_601 : decode cX12_init 601 = .ok (.bipush 98, 2) := by decide +kernel
theorem dX12_init_603 : decode cX12_init 603 = .ok (.bipush 119, 2) := by decide +kernel
theorem dX12_init_605 : decode cX12_init 605 = .ok (.castore, 1) := by decide +kernel
theorem dX12_init_606 : decode cX12_init 606 = .ok (.dup, 1) := by decide +kernel
theorem dX12_init_607 : decode cX12_init 607 = .ok (.bipush 99, 2) := by decide +kernel
theorem dX12_init_609 : decode cX12_init 609 = .ok (.bipush 105, 2) := by decide +kernel
theorem dX12_init_611 : decode cX12_init 611 = .ok (.castore, 1) := by decide +kernel
theorem dX12_init_612 : decode cX12_init 612 = .ok (.dup, 1) := by decide +kernel
theorem dX12_init_613 : decode cX12_init 613 = .ok (.bipush 100, 2) := by decide +kernel
theorem dX12_init_615 : decode cX12_init 615 = .ok (.bipush 116, 2) := by decide +kernel
theorem dX12_init_617 : decode cX12_init 617 = .ok (.castore, 1) := by decide +kernel
theorem dX12_init_618 : decode cX12_init 618 = .ok (.dup, 1) := by decide +kernel
theorem dX12_init_619 : decode cX12_init 619 = .ok (.bipush 101, 2) := by decide +kernel
theorem dX12_init_621 : decode cX12_init 621 = .ok (.bipush 104, 2) := by decide +kernel
theorem dX12_init_623 : decode cX12_init 623 = .ok (.castore, 1) := by decide +kernel
theorem dX12_init_624 : decode cX12_init 624 = .ok (.dup, 1) := by decide +kernel
theorem dX12_init_625 : decode cX12_init 625 = .ok (.bipush 102, 2) := by decide +kernel
theorem dX12_init_627 : decode cX12_init 627 = .ok (.bipush 105, 2) := by decide +kernel
theorem dX12_init_629 : decode cX12_init 629 = .ok (.castore, 1) := by decide +kernel
theorem dX12_init_630 : decode cX12_init 630 = .ok (.dup, 1) := by decide +kernel
theorem dX12_init_631 : decode cX12_init 631 = .ok (.bipush 103, 2) := by decide +kernel
theorem dX12_init_633 : decode cX12_init 633 = .ok (.bipush 110, 2) := by decide +kernel
theorem dX12_init_635 : decode cX12_init 635 = .ok (.castore, 1) := by decide +kernel
theorem dX12_init_636 : decode cX12_init 636 = .ok (.dup, 1) := by decide +kernel
theorem dX12_init_637 : decode cX12_init 637 = .ok (.bipush 104, 2) := by decide +kernel
theorem dX12_init_639 : decode cX12_init 639 = .ok (.bipush 32, 2) := by decide +kernel
theorem dX12_init_641 : decode cX12_init 641 = .ok (.castore, 1) := by decide +kernel
theorem dX12_init_642 : decode cX12_init 642 = .ok (.dup, 1) := by decide +kernel
theorem dX12_init_643 : decode cX12_init 643 = .ok (.bipush 105, 2) := by decide +kernel
theorem dX12_init_645 : decode cX12_init 645 = .ok (.bipush 115, 2) := by decide +kernel
theorem dX12_init_647 : decode cX12_init 647 = .ok (.castore, 1) := by decide +kernel
theorem dX12_init_648 : decode cX12_init 648 = .ok (.dup, 1) := by decide +kernel
theorem dX12_init_649 : decode cX12_init 649 = .ok (.bipush 106, 2) := by decide +kernel
theorem dX12_init_651 : decode cX12_init 651 = .ok (.bipush 113, 2) := by decide +kernel
theorem dX12_init_653 : decode cX12_init 653 = .ok (.castore, 1) := by decide +kernel
theorem dX12_init_654 : decode cX12_init 654 = .ok (.dup, 1) := by decide +kernel
theorem dX12_init_655 : decode cX12_init 655 = .ok (.bipush 107, 2) := by decide +kernel
theorem dX12_init_657 : decode cX12_init 657 = .ok (.bipush 117, 2) := by decide +kernel
theorem dX12_init_659 : decode cX12_init 659 = .ok (.castore, 1) := by decide +kernel
theorem dX12_init_660 : decode cX12_init 660 = .ok (.dup, 1) := by decide +kernel
theorem dX12_init_661 : decode cX12_init 661 = .ok (.bipush 108, 2) := by decide +kernel
theorem dX12_init_663 : decode cX12_init 663 = .ok (.bipush 101, 2) := by decide +kernel
theorem dX12_init_665 : decode cX12_init 665 = .ok (.castore, 1) := by decide +kernel
theorem dX12_init_666 : decode cX12_init 666 = .ok (.dup, 1) := by decide +kernel
theorem dX12_init_667 : decode cX12_init 667 = .ok (.bipush 109, 2) := by decide +kernel
theorem dX12_init_669 : decode cX12_init 669 = .ok (.bipush 101, 2) := by decide +kernel
theorem dX12_init_671 : decode cX12_init 671 = .ok (.castore, 1) := by decide +kernel
theorem dX12_init_672 : decode cX12_init 672 = .ok (.dup, 1) := by decide +kernel
theorem dX12_init_673 : decode cX12_init 673 = .ok (.bipush 110, 2) := by decide +kernel
theorem dX12_init_675 : decode cX12_init 675 = .ok (.bipush 122, 2) := by decide +kernel
theorem dX12_init_677 : decode cX12_init 677 = .ok (.castore, 1) := by decide +kernel
theorem dX12_init_678 : decode cX12_init 678 = .ok (.dup, 1) := by decide +kernel
theorem dX12_init_679 : decode cX12_init 679 = .ok (.bipush 111, 2) := by decide +kernel
theorem dX12_init_681 : decode cX12_init 681 = .ok (.bipush 101, 2) := by decide +kernel
theorem dX12_init_683 : decode cX12_init 683 = .ok (.castore, 1) := by decide +kernel
theorem dX12_init_684 : decode cX12_init 684 = .ok (.dup, 1) := by decide +kernel
theorem dX12_init_685 : decode cX12_init 685 = .ok (.bipush 112, 2) := by decide +kernel
theorem dX12_init_687 : decode cX12_init 687 = .ok (.bipush 32, 2) := by decide +kernel
theorem dX12_init_689 : decode cX12_init 689 = .ok (.castore, 1) := by decide +kernel
theorem dX12_init_690 : decode cX12_init 690 = .ok (.putfield 112, 3) := by decide +kernel
theorem dX12_init_693 : decode cX12_init 693 = .ok (.aload_n 0, 1) := by decide +kernel
theorem dX12_init_694 : decode cX12_init 694 = .ok (.bipush 21, 2) := by decide +kernel
theorem dX12_init_696 : decode cX12_init 696 = .ok (.newarray .int, 2) := by decide +kernel
theorem dX12_init_698 : decode cX12_init 698 = .ok (.dup, 1) := by decide +kernel
theorem dX12_init_699 : decode cX12_init 699 = .ok (.iconst 0, 1) := by decide +kernel
theorem dX12_init_700 : decode cX12_init 700 = .ok (.bipush 14, 2) := by decide +kernel
theorem dX12_init_702 : decode cX12_init 702 = .ok (.iastore, 1) := by decide +kernel
theorem dX12_init_703 : decode cX12_init 703 = .ok (.dup, 1) := by decide +kernel
theorem dX12_init_704 : decode cX12_init 704 = .ok (.iconst 1, 1) := by decide +kernel
theorem dX12_init_705 : decode cX12_init 705 = .ok (.bipush 14, 2) := by decide +kernel
theorem dX12_init_707 : decode cX12_init 707 = .ok (.iastore, 1) := by decide +kernel
theorem dX12_init_708 : decode cX12_init 708 = .ok (.dup, 1) := by decide +kernel
theorem dX12_init_709 : decode cX12_init 709 = .ok (.iconst 2, 1) := by decide +kernel
theorem dX12_init_710 : decode cX12_init 710 = .ok (.bipush 14, 2) := by decide +kernel
theorem dX12_init_712 : decode cX12_init 712 = .ok (.iastore, 1) := by decide +kernel
theorem dX12_init_713 : decode cX12_init 713 = .ok (.dup, 1) := by decide +kernel
theorem dX12_init_714 : decode cX12_init 714 = .ok (.iconst 3, 1) := by decide +kernel
theorem dX12_init_715 : decode cX12_init 715 = .ok (.bipush 14, 2) := by decide +kernel
theorem dX12_init_717 : decode cX12_init 717 = .ok (.iastore, 1) := by decide +kernel
theorem dX12_init_718 : decode cX12_init 718 = .ok (.dup, 1) := by decide +kernel
theorem dX12_init_719 : decode cX12_init 719 = .ok (.iconst 4, 1) := by decide +kernel
theorem dX12_init_720 : decode cX12_init 720 = .ok (.iconst 4, 1) := by decide +kernel
theorem dX12_init_721 : decode cX12_init 721 = .ok (.iastore, 1) := by decide +kernel
theorem dX12_init_722 : decode cX12_init 722 = .ok (.dup, 1) := by decide +kernel
theorem dX12_init_723 : decode cX12_init 723 = .ok (.iconst 5, 1) := by decide +kernel
theorem dX12_init_724 : decode cX12_init 724 = .ok (.sipush 234, 3) := by decide +kernel
theorem dX12_init_727 : decode cX12_init 727 = .ok (.iastore, 1) := by decide +kernel
theorem dX12_init_728 : decode cX12_init 728 = .ok (.dup, 1) := by decide +kernel
theorem dX12_init_729 : decode cX12_init 729 = .ok (.bipush 6, 2) := by decide +kernel
theorem dX12_init_731 : decode cX12_init 731 = .ok (.sipush 2234, 3) := by decide +kernel
theorem dX12_init_734 : decode cX12_init 734 = .ok (.iastore, 1) := by decide +kernel
theorem dX12_init_735 : decode cX12_init 735 = .ok (.dup, 1) := by decide +kernel
theorem dX12_init_736 : decode cX12_init 736 = .ok (.bipush 7, 2) := by decide +kernel
theorem dX12_init_738 : decode cX12_init 738 = .ok (.sipush 134, 3) := by decide +kernel
theorem dX12_init_741 : decode cX12_init 741 = .ok (.iastore, 1) := by decide +kernel
theorem dX12_init_742 : decode cX12_init 742 = .ok (.dup, 1) := by decide +kernel
theorem dX12_init_743 : decode cX12_init 743 = .ok (.bipush 8, 2) := by decide +kernel
theorem dX12_init_745 : decode cX12_init 745 = .ok (.bipush 34, 2) := by decide +kernel
theorem dX12_init_747 : decode cX12_init 747 = .ok (.iastore, 1) := by decide +kernel
theorem dX12_init_748 : decode cX12_init 748 = .ok (.dup, 1) := by decide +kernel
theorem dX12_init_749 : decode cX12_init 749 = .ok (.bipush 9, 2) := by decide +kernel
theorem dX12_init_751 : decode cX12_init 751 = .ok (.bipush 24, 2) := by decide +kernel
theorem dX12_init_753 : decode cX12_init 753 = .ok (.iastore, 1) := by decide +kernel
theorem dX12_init_754 : decode cX12_init 754 = .ok (.dup, 1) := by decide +kernel
theorem dX12_init_755 : decode cX12_init 755 = .ok (.bipush 10, 2) := by decide +kernel
theorem dX12_init_757 : decode cX12_init 757 = .ok (.bipush 24, 2) := by decide +kernel
theorem dX12_init_759 : decode cX12_init 759 = .ok (.iastore, 1) := by decide +kernel
theorem dX12_init_760 : decode cX12_init 760 = .ok (.dup, 1) := by decide +kernel
theorem dX12_init_761 : decode cX12_init 761 = .ok (.bipush 11, 2) := by decide +kernel
theorem dX12_init_763 : decode cX12_init 763 = .ok (.sipush 234, 3) := by decide +kernel
theorem dX12_init_766 : decode cX12_init 766 = .ok (.iastore, 1) := by decide +kernel
theorem dX12_init_767 : decode cX12_init 767 = .ok (.dup, 1) := by decide +kernel
theorem dX12_init_768 : decode cX12_init 768 = .ok (.bipush 12, 2) := by decide +kernel
theorem dX12_init_770 : decode cX12_init 770 = .ok (.sipush 234, 3) := by decide +kernel
theorem dX12_init_773 : decode cX12_init 773 = .ok (.iastore, 1) := by decide +kernel
theorem dX12_init_774 : decode cX12_init 774 = .ok (.dup, 1) := by decide +kernel
theorem dX12_init_775 : decode cX12_init 775 = .ok (.bipush 13, 2) := by decide +kernel
theorem dX12_init_777 : decode cX12_init 777 = .ok (.bipush 24, 2) := by decide +kernel
theorem dX12_init_779 : decode cX12_init 779 = .ok (.iastore, 1) := by decide +kernel
theorem dX12_init_780 : decode cX12_init 780 = .ok (.dup, 1) := by decide +kernel
theorem dX12_init_781 : decode cX12_init 781 = .ok (.bipush 14, 2) := by decide +kernel
theorem dX12_init_783 : decode cX12_init 783 = .ok (.bipush 44, 2) := by decide +kernel
theorem dX12_init_785 : decode cX12_init 785 = .ok (.iastore, 1) := by decide +kernel
theorem dX12_init_786 : decode cX12_init 786 = .ok (.dup, 1) := by decide +kernel
theorem dX12_init_787 : decode cX12_init 787 = .ok (.bipush 15, 2) := by decide +kernel
theorem dX12_init_789 : decode cX12_init 789 = .ok (.bipush 44, 2) := by decide +kernel
theorem dX12_init_791 : decode cX12_init 791 = .ok (.iastore, 1) := by decide +kernel
theorem dX12_init_792 : decode cX12_init 792 = .ok (.dup, 1) := by decide +kernel
theorem dX12_init_793 : decode cX12_init 793 = .ok (.bipush 16, 2) := by decide +kernel
theorem dX12_init_795 : decode cX12_init 795 = .ok (.bipush 24, 2) := by decide +kernel
theorem dX12_init_797 : decode cX12_init 797 = .ok (.iastore, 1) := by decide +kernel
theorem dX12_init_798 : decode cX12_init 798 = .ok (.dup, 1) := by decide +kernel
theorem dX12_init_799 : decode cX12_init 799 = .ok (.bipush 17, 2) := by decide +kernel
theorem dX12_init_801 : decode cX12_init 801 = .ok (.bipush 24, 2) := by decide +kernel
theorem dX12_init_803 : decode cX12_init 803 = .ok (.iastore, 1) := by decide +kernel
theorem dX12_init_804 : decode cX12_init 804 = .ok (.dup, 1) := by decide +kernel
theorem dX12_init_805 : decode cX12_init 805 = .ok (.bipush 18, 2) := by decide +kernel
theorem dX12_init_807 : decode cX12_init 807 = .ok (.sipush 234, 3) := by decide +kernel
theorem dX12_init_810 : decode cX12_init 810 = .ok (.iastore, 1) := by decide +kernel
theorem dX12_init_811 : decode cX12_init 811 = .ok (.dup, 1) := by decide +kernel
theorem dX12_init_812 : decode cX12_init 812 = .ok (.bipush 19, 2) := by decide +kernel
theorem dX12_init_814 : decode cX12_init 814 = .ok (.sipush 1134, 3) := by decide +kernel
theorem dX12_init_817 : decode cX12_init 817 = .ok (.iastore, 1) := by decide +kernel
theorem dX12_init_818 : decode cX12_init 818 = .ok (.dup, 1) := by decide +kernel
theorem dX12_init_819 : decode cX12_init 819 = .ok (.bipush 20, 2) := by decide +kernel
theorem dX12_init_821 : decode cX12_init 821 = .ok (.bipush 114, 2) := by decide +kernel
theorem dX12_init_823 : decode cX12_init 823 = .ok (.iastore, 1) := by decide +kernel
theorem dX12_init_824 : decode cX12_init 824 = .ok (.putfield 228, 3) := by decide +kernel
theorem dX12_init_827 : decode cX12_init 827 = .ok (.aload_n 0, 1) := by decide +kernel
theorem dX12_init_828 : decode cX12_init 828 = .ok (.ldc_w 707, 3) := by decide +kernel
theorem dX12_init_831 : decode cX12_init 831 = .ok (.newarray .int, 2) := by decide +kernel
theorem dX12_init_833 : decode cX12_init 833 = .ok (.putfield 7, 3) := by decide +kernel
theorem dX12_init_836 : decode cX12_init 836 = .ok (.aload_n 0, 1) := by decide +kernel
theorem dX12_init_837 : decode cX12_init 837 = .ok (.ldc_w 707, 3) := by decide +kernel
theorem dX12_init_840 : decode cX12_init 840 = .ok (.newarray .int, 2) := by decide +kernel
theorem dX12_init_842 : decode cX12_init 842 = .ok (.putfield 11, 3) := by decide +kernel
theorem dX12_init_845 : decode cX12_init 845 = .ok (.aload_n 0, 1) := by decide +kernel
theorem dX12_init_846 : decode cX12_init 846 = .ok (.ldc_w 707, 3) := by decide +kernel
theorem dX12_init_849 : decode cX12_init 849 = .ok (.newarray .int, 2) := by decide +kernel
theorem dX12_init_851 : decode cX12_init 851 = .ok (.putfield 14, 3) := by decide +kernel
theorem dX12_init_854 : decode cX12_init 854 = .ok (.aload_n 0, 1) := by decide +kernel
theorem dX12_init_855 : decode cX12_init 855 = .ok (.ldc_w 707, 3) := by decide +kernel
theorem dX12_init_858 : decode cX12_init 858 = .ok (.newarray .int, 2) := by decide +kernel
theorem dX12_init_860 : decode cX12_init 860 = .ok (.putfield 17, 3) := by decide +kernel
theorem dX12_init_863 : decode cX12_init 863 = .ok (.aload_n 0, 1) := by decide +kernel
theorem dX12_init_864 : decode cX12_init 864 = .ok (.ldc_w 707, 3) := by decide +kernel
theorem dX12_init_867 : decode cX12_init 867 = .ok (.newarray .int, 2) := by decide +kernel
theorem dX12_init_869 : decode cX12_init 869 = .ok (.putfield 20, 3) := by decide +kernel
theorem dX12_init_872 : decode cX12_init 872 = .ok (.aload_n 0, 1) := by decide +kernel
theorem dX12_init_873 : decode cX12_init 873 = .ok (.ldc_w 707, 3) := by decide +kernel
theorem dX12_init_876 : decode cX12_init 876 = .ok (.newarray .int, 2) := by decide +kernel
theorem dX12_init_878 : decode cX12_init 878 = .ok (.putfield 23, 3) := by decide +kernel
theorem dX12_init_881 : decode cX12_init 881 = .ok (.aload_n 0, 1) := by decide +kernel
theorem dX12_init_882 : decode cX12_init 882 = .ok (.ldc_w 707, 3) := by decide +kernel
theorem dX12_init_885 : decode cX12_init 885 = .ok (.newarray .int, 2) := by decide +kernel
theorem dX12_init_887 : decode cX12_init 887 = .ok (.putfield 26, 3) := by decide +kernel
theorem dX12_init_890 : decode cX12_init 890 = .ok (.aload_n 0, 1) := by decide +kernel
theorem dX12_init_891 : decode cX12_init 891 = .ok (.ldc_w 707, 3) := by decide +kernel
theorem dX12_init_894 : decode cX12_init 894 = .ok (.newarray .int, 2) := by decide +kernel
theorem dX12_init_896 : decode cX12_init 896 = .ok (.putfield 29, 3) := by decide +kernel
theorem dX12_init_899 : decode cX12_init 899 = .ok (.aload_n 0, 1) := by decide +kernel
theorem dX12_init_900 : decode cX12_init 900 = .ok (.ldc_w 707, 3) := by decide +kernel
theorem dX12_init_903 : decode cX12_init 903 = .ok (.newarray .int, 2) := by decide +kernel
theorem dX12_init_905 : decode cX12_init 905 = .ok (.putfield 32, 3) := by decide +kernel
theorem dX12_init_908 : decode cX12_init 908 = .ok (.aload_n 0, 1) := by decide +kernel
theorem dX12_init_909 : decode cX12_init 909 = .ok (.ldc_w 707, 3) := by decide +kernel
theorem dX12_init_912 : decode cX12_init 912 = .ok (.newarray .int, 2) := by decide +kernel
theorem dX12_init_914 : decode cX12_init 914 = .ok (.putfield 35, 3) := by decide +kernel
theorem dX12_init_917 : decode cX12_init 917 = .ok (.aload_n 0, 1) := by decide +kernel
theorem dX12_init_918 : decode cX12_init 918 = .ok (.ldc_w 707, 3) := by decide +kernel
theorem dX12_init_921 : decode cX12_init 921 = .ok (.newarray .int, 2) := by decide +kernel
theorem dX12_init_923 : decode cX12_init 923 = .ok (.putfield 38, 3) := by decide +kernel
theorem dX12_init_926 : decode cX12_init 926 = .ok (.aload_n 0, 1) := by decide +kernel
theorem dX12_init_927 : decode cX12_init 927 = .ok (.sipush 6000, 3) := by decide +kernel
theorem dX12_init_930 : decode cX12_init 930 = .ok (.newarray .long, 2) := by decide +kernel
theorem dX12_init_932 : decode cX12_init 932 = .ok (.putfield 129, 3) := by decide +kernel
theorem dX12_init_935 : decode cX12_init 935 = .ok (.aload_n 0, 1) := by decide +kernel
theorem dX12_init_936 : decode cX12_init 936 = .ok (.sipush 6000, 3) := by decide +kernel
theorem dX12_init_939 : decode cX12_init 939 = .ok (.newarray .long, 2) := by decide +kernel
theorem dX12_init_941 : decode cX12_init 941 = .ok (.putfield 135, 3) := by decide +kernel
theorem dX12_init_944 : decode cX12_init 944 = .ok (.aload_n 0, 1) := by decide +kernel
theorem dX12_init_945 : decode cX12_init 945 = .ok (.sipush 6000, 3) := by decide +kernel
theorem dX12_init_948 : decode cX12_init 948 = .ok (.newarray .int, 2) := by decide +kernel
theorem dX12_init_950 : decode cX12_init 950 = .ok (.putfield 231, 3) := by decide +kernel
theorem dX12_init_953 : decode cX12_init 953 = .ok (.aload_n 0, 1) := by decide +kernel
theorem dX12_init_954 : decode cX12_init 954 = .ok (.sipush 6000, 3) := by decide +kernel
theorem dX12_init_957 : decode cX12_init 957 = .ok (.newarray .int, 2) := by decide +kernel
theorem dX12_init_959 : decode cX12_init 959 = .ok (.putfield 505, 3) := by decide +kernel
theorem dX12_init_962 : decode cX12_init 962 = .ok (.aload_n 0, 1) := by decide +kernel
theorem dX12_init_963 : decode cX12_init 963 = .ok (.sipush 6000, 3) := by decide +kernel
theorem dX12_init_966 : decode cX12_init 966 = .ok (.newarray .int, 2) := by decide +kernel
theorem dX12_init_968 : decode cX12_init 968 = .ok (.putfield 249, 3) := by decide +kernel
theorem dX12_init_971 : decode cX12_init 971 = .ok (.aload_n 0, 1) := by decide +kernel
theorem dX12_init_972 : decode cX12_init 972 = .ok (.bipush 40, 2) := by decide +kernel
theorem dX12_init_974 : decode cX12_init 974 = .ok (.newarray .int, 2) := by decide +kernel
theorem dX12_init_976 : decode cX12_init 976 = .ok (.putfield 708, 3) := by decide +kernel
theorem dX12_init_979 : decode cX12_init 979 = .ok (.aload_n 0, 1) := by decide +kernel
theorem dX12_init_980 : decode cX12_init 980 = .ok (.sipush 700, 3) := by decide +kernel
theorem dX12_init_983 : decode cX12_init 983 = .ok (.newarray .int, 2) := by decide +kernel
theorem dX12_init_985 : decode cX12_init 985 = .ok (.putfield 132, 3) := by decide +kernel
theorem dX12_init_988 : decode cX12_init 988 = .ok (.aload_n 0, 1) := by decide +kernel
theorem dX12_init_989 : decode cX12_init 989 = .ok (.iconst 4, 1) := by decide +kernel
theorem dX12_init_990 : decode cX12_init 990 = .ok (.newarray .long, 2) := by decide +kernel
theorem dX12_init_992 : decode cX12_init 992 = .ok (.putfield 119, 3) := by decide +kernel
theorem dX12_init_995 : decode cX12_init 995 = .ok (.aload_n 0, 1) := by decide +kernel
theorem dX12_init_996 : decode cX12_init 996 = .ok (.iconst 4, 1) := by decide +kernel
theorem dX12_init_997 : decode cX12_init 997 = .ok (.newarray .long, 2) := by decide +kernel
theorem dX12_init_999 : decode cX12_init 999 = .ok (.putfield 123, 3) := by decide +kernel
theorem dX12_init_1002 : decode cX12_init 1002 = .ok (.aload_n 0, 1) := by decide +kernel
theorem dX12_init_1003 : decode cX12_init 1003 = .ok (.sipush 600, 3) := by decide +kernel
theorem dX12_init_1006 : decode cX12_init 1006 = .ok (.newarray .int, 2) := by decide +kernel
theorem dX12_init_1008 : decode cX12_init 1008 = .ok (.putfield 138, 3) := by decide +kernel
theorem dX12_init_1011 : decode cX12_init 1011 = .ok (.aload_n 0, 1) := by decide +kernel
theorem dX12_init_1012 : decode cX12_init 1012 = .ok (.sipush 600, 3) := by decide +kernel
theorem dX12_init_1015 : decode cX12_init 1015 = .ok (.newarray .int, 2) := by decide +kernel
theorem dX12_init_1017 : decode cX12_init 1017 = .ok (.putfield 144, 3) := by decide +kernel
theorem dX12_init_1020 : decode cX12_init 1020 = .ok (.aload_n 0, 1) := by decide +kernel
theorem dX12_init_1021 : decode cX12_init 1021 = .ok (.sipush 600, 3) := by decide +kernel
theorem dX12_init_1024 : decode cX12_init 1024 = .ok (.newarray .int, 2) := by decide +kernel
theorem dX12_init_1026 : decode cX12_init 1026 = .ok (.putfield 147, 3) := by decide +kernel
theorem dX12_init_1029 : decode cX12_init 1029 = .ok (.aload_n 0, 1) := by decide +kernel
theorem dX12_init_1030 : decode cX12_init 1030 = .ok (.sipush 600, 3) := by decide +kernel
theorem dX12_init_1033 : decode cX12_init 1033 = .ok (.newarray .int, 2) := by decide +kernel
theorem dX12_init_1035 : decode cX12_init 1035 = .ok (.putfield 150, 3) := by decide +kernel
theorem dX12_init_1038 : decode cX12_init 1038 = .ok (.aload_n 0, 1) := by decide +kernel
theorem dX12_init_1039 : decode cX12_init 1039 = .ok (.ldc_w 711, 3) := by decide +kernel
theorem dX12_init_1042 : decode cX12_init 1042 = .ok (.newarray .int, 2) := by decide +kernel
theorem dX12_init_1044 : decode cX12_init 1044 = .ok (.putfield 375, 3) := by decide +kernel
theorem dX12_init_1047 : decode cX12_init 1047 = .ok (.aload_n 0, 1) := by decide +kernel
theorem dX12_init_1048 : decode cX12_init 1048 = .ok (.ldc_w 711, 3) := by decide +kernel
theorem dX12_init_1051 : decode cX12_init 1051 = .ok (.newarray .int, 2) := by decide +kernel
theorem dX12_init_1053 : decode cX12_init 1053 = .ok (.putfield 378, 3) := by decide +kernel
theorem dX12_init_1056 : decode cX12_init 1056 = .ok (.aload_n 0, 1) := by decide +kernel
theorem dX12_init_1057 : decode cX12_init 1057 = .ok (.ldc_w 711, 3) := by decide +kernel
theorem dX12_init_1060 : decode cX12_init 1060 = .ok (.newarray .int, 2) := by decide +kernel
theorem dX12_init_1062 : decode cX12_init 1062 = .ok (.putfield 381, 3) := by decide +kernel
theorem dX12_init_1065 : decode cX12_init 1065 = .ok (.aload_n 0, 1) := by decide +kernel
theorem dX12_init_1066 : decode cX12_init 1066 = .ok (.ldc_w 711, 3) := by decide +kernel
theorem dX12_init_1069 : decode cX12_init 1069 = .ok (.newarray .int, 2) := by decide +kernel
theorem dX12_init_1071 : decode cX12_init 1071 = .ok (.putfield 384, 3) := by decide +kernel
theorem dX12_init_1074 : decode cX12_init 1074 = .ok (.aload_n 0, 1) := by decide +kernel
theorem dX12_init_1075 : decode cX12_init 1075 = .ok (.ldc_w 711, 3) := by decide +kernel
theorem dX12_init_1078 : decode cX12_init 1078 = .ok (.newarray .int, 2) := by decide +kernel
theorem dX12_init_1080 : decode cX12_init 1080 = .ok (.putfield 387, 3) := by decide +kernel
theorem dX12_init_1083 : decode cX12_init 1083 = .ok (.aload_n 0, 1) := by decide +kernel
theorem dX12_init_1084 : decode cX12_init 1084 = .ok (.ldc_w 711, 3) := by decide +kernel
theorem dX12_init_1087 : decode cX12_init 1087 = .ok (.newarray .int, 2) := by decide +kernel
theorem dX12_init_1089 : decode cX12_init 1089 = .ok (.putfield 339, 3) := by decide +kernel
theorem dX12_init_1092 : decode cX12_init 1092 = .ok (.aload_n 0, 1) := by decide +kernel
theorem dX12_init_1093 : decode cX12_init 1093 = .ok (.ldc_w 711, 3) := by decide +kernel
theorem dX12_init_1096 : decode cX12_init 1096 = .ok (.newarray .int, 2) := by decide +kernel
theorem dX12_init_1098 : decode cX12_init 1098 = .ok (.putfield 342, 3) := by decide +kernel
theorem dX12_init_1101 : decode cX12_init 1101 = .ok (.aload_n 0, 1) := by decide +kernel
theorem dX12_init_1102 : decode cX12_init 1102 = .ok (.ldc_w 711, 3) := by decide +kernel
theorem dX12_init_1105 : decode cX12_init 1105 = .ok (.newarray .int, 2) := by decide +kernel
theorem dX12_init_1107 : decode cX12_init 1107 = .ok (.putfield 351, 3) := by decide +kernel
theorem dX12_init_1110 : decode cX12_init 1110 = .ok (.aload_n 0, 1) := by decide +kernel
theorem dX12_init_1111 : decode cX12_init 1111 = .ok (.ldc_w 711, 3) := by decide +kernel
theorem dX12_init_1114 : decode cX12_init 1114 = .ok (.newarray .int, 2) := by decide +kernel
theorem dX12_init_1116 : decode cX12_init 1116 = .ok (.putfield 357, 3) := by decide +kernel
theorem dX12_init_1119 : decode cX12_init 1119 = .ok (.aload_n 0, 1) := by decide +kernel
theorem dX12_init_1120 : decode cX12_init 1120 = .ok (.ldc_w 711, 3) := by decide +kernel
theorem dX12_init_1123 : decode cX12_init 1123 = .ok (.newarray .int, 2) := by decide +kernel
theorem dX12_init_1125 : decode cX12_init 1125 = .ok (.putfield 360, 3) := by decide +kernel
theorem dX12_init_1128 : decode cX12_init 1128 = .ok (.aload_n 0, 1) := by decide +kernel
theorem dX12_init_1129 : decode cX12_init 1129 = .ok (.ldc_w 711, 3) := by decide +kernel
theorem dX12_init_1132 : decode cX12_init 1132 = .ok (.newarray .int, 2) := by decide +kernel
theorem dX12_init_1134 : decode cX12_init 1134 = .ok (.putfield 363, 3) := by decide +kernel
theorem dX12_init_1137 : decode cX12_init 1137 = .ok (.aload_n 0, 1) := by decide +kernel
theorem dX12_init_1138 : decode cX12_init 1138 = .ok (.ldc_w 711, 3) := by decide +kernel
theorem dX12_init_1141 : decode cX12_init 1141 = .ok (.newarray .int, 2) := by decide +kernel
theorem dX12_init_1143 : decode cX12_init 1143 = .ok (.putfield 366, 3) := by decide +kernel
theorem dX12_init_1146 : decode cX12_init 1146 = .ok (.aload_n 0, 1) := by decide +kernel
theorem dX12_init_1147 : decode cX12_init 1147 = .ok (.ldc_w 712, 3) := by decide +kernel
theorem dX12_init_1150 : decode cX12_init 1150 = .ok (.newarray .int, 2) := by decide +kernel
theorem dX12_init_1152 : decode cX12_init 1152 = .ok (.putfield 345, 3) := by decide +kernel
theorem dX12_init_1155 : decode cX12_init 1155 = .ok (.aload_n 0, 1) := by decide +kernel
theorem dX12_init_1156 : decode cX12_init 1156 = .ok (.ldc_w 712, 3) := by decide +kernel
theorem dX12_init_1159 : decode cX12_init 1159 = .ok (.newarray .int, 2) := by decide +kernel
theorem dX12_init_1161 : decode cX12_init 1161 = .ok (.putfield 348, 3) := by decide +kernel
theorem dX12_init_1164 : decode cX12_init 1164 = .ok (.aload_n 0, 1) := by decide +kernel
theorem dX12_init_1165 : decode cX12_init 1165 = .ok (.sipush 20000, 3) := by decide +kernel
theorem dX12_init_1168 : decode cX12_init 1168 = .ok (.newarray .int, 2) := by decide +kernel
theorem dX12_init_1170 : decode cX12_init 1170 = .ok (.putfield 285, 3) := by decide +kernel
theorem dX12_init_1173 : decode cX12_init 1173 = .ok (.aload_n 0, 1) := by decide +kernel
theorem dX12_init_1174 : decode cX12_init 1174 = .ok (.sipush 20000, 3) := by decide +kernel
theorem dX12_init_1177 : decode cX12_init 1177 = .ok (.newarray .int, 2) := by decide +kernel
theorem dX12_init_1179 : decode cX12_init 1179 = .ok (.putfield 291, 3) := by decide +kernel
theorem dX12_init_1182 : decode cX12_init 1182 = .ok (.aload_n 0, 1) := by decide +kernel
theorem dX12_init_1183 : decode cX12_init 1183 = .ok (.sipush 20000, 3) := by decide +kernel
theorem dX12_init_1186 : decode cX12_init 1186 = .ok (.newarray .int, 2) := by decide +kernel
theorem dX12_init_1188 : decode cX12_init 1188 = .ok (.putfield 294, 3) := by decide +kernel
theorem dX12_init_1191 : decode cX12_init 1191 = .ok (.aload_n 0, 1) := by decide +kernel
theorem dX12_init_1192 : decode cX12_init 1192 = .ok (.bipush 60, 2) := by decide +kernel
theorem dX12_init_1194 : decode cX12_init 1194 = .ok (.newarray .int, 2) := by decide +kernel
theorem dX12_init_1196 : decode cX12_init 1196 = .ok (.putfield 496, 3) := by decide +kernel
theorem dX12_init_1199 : decode cX12_init 1199 = .ok (.aload_n 0, 1) := by decide +kernel
theorem dX12_init_1200 : decode cX12_init 1200 = .ok (.sipush 30000, 3) := by decide +kernel
theorem dX12_init_1203 : decode cX12_init 1203 = .ok (.newarray .long, 2) := by decide +kernel
theorem dX12_init_1205 : decode cX12_init 1205 = .ok (.putfield 554, 3) := by decide +kernel
theorem dX12_init_1208 : decode cX12_init 1208 = .ok (.aload_n 0, 1) := by decide +kernel
theorem dX12_init_1209 : decode cX12_init 1209 = .ok (.sipush 30000, 3) := by decide +kernel
theorem dX12_init_1212 : decode cX12_init 1212 = .ok (.newarray .long, 2) := by decide +kernel
theorem dX12_init_1214 : decode cX12_init 1214 = .ok (.putfield 557, 3) := by decide +kernel
theorem dX12_init_1217 : decode cX12_init 1217 = .ok (.aload_n 0, 1) := by decide +kernel
theorem dX12_init_1218 : decode cX12_init 1218 = .ok (.sipush 30000, 3) := by decide +kernel
theorem dX12_init_1221 : decode cX12_init 1221 = .ok (.newarray .int, 2) := by decide +kernel
theorem dX12_init_1223 : decode cX12_init 1223 = .ok (.putfield 560, 3) := by decide +kernel
theorem dX12_init_1226 : decode cX12_init 1226 = .ok (.aload_n 0, 1) := by decide +kernel
theorem dX12_init_1227 : decode cX12_init 1227 = .ok (.sipush 30000, 3) := by decide +kernel
theorem dX12_init_1230 : decode cX12_init 1230 = .ok (.newarray .int, 2) := by decide +kernel
theorem dX12_init_1232 : decode cX12_init 1232 = .ok (.putfield 563, 3) := by decide +kernel
theorem dX12_init_1235 : decode cX12_init 1235 = .ok (.aload_n 0, 1) := by decide +kernel
theorem dX12_init_1236 : decode cX12_init 1236 = .ok (.sipush 30000, 3) := by decide +kernel
theorem dX12_init_1239 : decode cX12_init 1239 = .ok (.newarray .int, 2) := by decide +kernel
theorem dX12_init_1241 : decode cX12_init 1241 = .ok (.putfield 566, 3) := by decide +kernel
theorem dX12_init_1244 : decode cX12_init 1244 = .ok (.aload_n 0, 1) := by decide +kernel
theorem dX12_init_1245 : decode cX12_init 1245 = .ok (.sipush 30000, 3) := by decide +kernel
theorem dX12_init_1248 : decode cX12_init 1248 = .ok (.newarray .int, 2) := by decide +kernel
theorem dX12_init_1250 : decode cX12_init 1250 = .ok (.putfield 569, 3) := by decide +kernel
theorem dX12_init_1253 : decode cX12_init 1253 = .ok (.aload_n 0, 1) := by decide +kernel
theorem dX12_init_1254 : decode cX12_init 1254 = .ok (.sipush 30000, 3) := by decide +kernel
theorem dX12_init_1257 : decode cX12_init 1257 = .ok (.newarray .int, 2) := by decide +kernel
theorem dX12_init_1259 : decode cX12_init 1259 = .ok (.putfield 572, 3) := by decide +kernel
theorem dX12_init_1262 : decode cX12_init 1262 = .ok (.aload_n 0, 1) := by decide +kernel
theorem dX12_init_1263 : decode cX12_init 1263 = .ok (.sipush 30000, 3) := by decide +kernel
theorem dX12_init_1266 : decode cX12_init 1266 = .ok (.newarray .int, 2) := by decide +kernel
theorem dX12_init_1268 : decode cX12_init 1268 = .ok (.putfield 575, 3) := by decide +kernel
theorem dX12_init_1271 : decode cX12_init 1271 = .ok (.aload_n 0, 1) := by decide +kernel
theorem dX12_init_1272 : decode cX12_init 1272 = .ok (.sipush 30000, 3) := by decide +kernel
theorem dX12_init_1275 : decode cX12_init 1275 = .ok (.newarray .int, 2) := by decide +kernel
theorem dX12_init_1277 : decode cX12_init 1277 = .ok (.putfield 578, 3) := by decide +kernel
theorem dX12_init_1280 : decode cX12_init 1280 = .ok (.aload_n 0, 1) := by decide +kernel
theorem dX12_init_1281 : decode cX12_init 1281 = .ok (.sipush 30000, 3) := by decide +kernel
theorem dX12_init_1284 : decode cX12_init 1284 = .ok (.newarray .int, 2) := by decide +kernel
theorem dX12_init_1286 : decode cX12_init 1286 = .ok (.putfield 581, 3) := by decide +kernel
theorem dX12_init_1289 : decode cX12_init 1289 = .ok (.aload_n 0, 1) := by decide +kernel
theorem dX12_init_1290 : decode cX12_init 1290 = .ok (.bipush 70, 2) := by decide +kernel
theorem dX12_init_1292 : decode cX12_init 1292 = .ok (.newarray .int, 2) := by decide +kernel
theorem dX12_init_1294 : decode cX12_init 1294 = .ok (.putfield 514, 3) := by decide +kernel
theorem dX12_init_1297 : decode cX12_init 1297 = .ok (.aload_n 0, 1) := by decide +kernel
theorem dX12_init_1298 : decode cX12_init 1298 = .ok (.bipush 70, 2) := by decide +kernel
theorem dX12_init_1300 : decode cX12_init 1300 = .ok (.newarray .long, 2) := by decide +kernel
theorem dX12_init_1302 : decode cX12_init 1302 = .ok (.putfield 517, 3) := by decide +kernel
theorem dX12_init_1305 : decode cX12_init 1305 = .ok (.aload_n 0, 1) := by decide +kernel
theorem dX12_init_1306 : decode cX12_init 1306 = .ok (.bipush 70, 2) := by decide +kernel
theorem dX12_init_1308 : decode cX12_init 1308 = .ok (.newarray .int, 2) := by decide +kernel
theorem dX12_init_1310 : decode cX12_init 1310 = .ok (.putfield 520, 3) := by decide +kernel
theorem dX12_init_1313 : decode cX12_init 1313 = .ok (.aload_n 0, 1) := by decide +kernel
theorem dX12_init_1314 : decode cX12_init 1314 = .ok (.bipush 70, 2) := by decide +kernel
theorem dX12_init_1316 : decode cX12_init 1316 = .ok (.newarray .int, 2) := by decide +kernel
theorem dX12_init_1318 : decode cX12_init 1318 = .ok (.putfield 523, 3) := by decide +kernel
theorem dX12_init_1321 : decode cX12_init 1321 = .ok (.aload_n 0, 1) := by decide +kernel
theorem dX12_init_1322 : decode cX12_init 1322 = .ok (.bipush 70, 2) := by decide +kernel
theorem dX12_init_1324 : decode cX12_init 1324 = .ok (.newarray .int, 2) := by decide +kernel
theorem dX12_init_1326 : decode cX12_init 1326 = .ok (.putfield 529, 3) := by decide +kernel
theorem dX12_init_1329 : decode cX12_init 1329 = .ok (.aload_n 0, 1) := by decide +kernel
theorem dX12_init_1330 : decode cX12_init 1330 = .ok (.bipush 70, 2) := by decide +kernel
theorem dX12_init_1332 : decode cX12_init 1332 = .ok (.newarray .int, 2) := by decide +kernel
theorem dX12_init_1334 : decode cX12_init 1334 = .ok (.putfield 532, 3) := by decide +kernel
theorem dX12_init_1337 : decode cX12_init 1337 = .ok (.aload_n 0, 1) := by decide +kernel
theorem dX12_init_1338 : decode cX12_init 1338 = .ok (.bipush 70, 2) := by decide +kernel
theorem dX12_init_1340 : decode cX12_init 1340 = .ok (.newarray .int, 2) := by decide +kernel
theorem dX12_init_1342 : decode cX12_init 1342 = .ok (.putfield 535, 3) := by decide +kernel
theorem dX12_init_1345 : decode cX12_init 1345 = .ok (.aload_n 0, 1) := by decide +kernel
theorem dX12_init_1346 : decode cX12_init 1346 = .ok (.bipush 70, 2) := by decide +kernel
theorem dX12_init_1348 : decode cX12_init 1348 = .ok (.newarray .long, 2) := by decide +kernel
theorem dX12_init_1350 : decode cX12_init 1350 = .ok (.putfield 538, 3) := by decide +kernel
theorem dX12_init_1353 : decode cX12_init 1353 = .ok (.aload_n 0, 1) := by decide +kernel
theorem dX12_init_1354 : decode cX12_init 1354 = .ok (.bipush 70, 2) := by decide +kernel
theorem dX12_init_1356 : decode cX12_init 1356 = .ok (.newarray .long, 2) := by decide +kernel
theorem dX12_init_1358 : decode cX12_init 1358 = .ok (.putfield 541, 3) := by decide +kernel
theorem dX12_init_1361 : decode cX12_init 1361 = .ok (.aload_n 0, 1) := by decide +kernel
theorem dX12_init_1362 : decode cX12_init 1362 = .ok (.bipush 70, 2) := by decide +kernel
theorem dX12_init_1364 : decode cX12_init 1364 = .ok (.newarray .long, 2) := by decide +kernel
theorem dX12_init_1366 : decode cX12_init 1366 = .ok (.putfield 544, 3) := by decide +kernel
theorem dX12_init_1369 : decode cX12_init 1369 = .ok (.aload_n 0, 1) := by decide +kernel
theorem dX12_init_1370 : decode cX12_init 1370 = .ok (.sipush 400, 3) := by decide +kernel
theorem dX12_init_1373 : decode cX12_init 1373 = .ok (.newarray .int, 2) := by decide +kernel
theorem dX12_init_1375 : decode cX12_init 1375 = .ok (.putfield 666, 3) := by decide +kernel
theorem dX12_init_1378 : decode cX12_init 1378 = .ok (.aload_n 0, 1) := by decide +kernel
theorem dX12_init_1379 : decode cX12_init 1379 = .ok (.sipush 400, 3) := by decide +kernel
theorem dX12_init_1382 : decode cX12_init 1382 = .ok (.newarray .int, 2) := by decide +kernel
theorem dX12_init_1384 : decode cX12_init 1384 = .ok (.putfield 669, 3) := by decide +kernel
theorem dX12_init_1387 : decode cX12_init 1387 = .ok (.aload_n 0, 1) := by decide +kernel
theorem dX12_init_1388 : decode cX12_init 1388 = .ok (.sipush 400, 3) := by decide +kernel
theorem dX12_init_1391 : decode cX12_init 1391 = .ok (.newarray .int, 2) := by decide +kernel
theorem dX12_init_1393 : decode cX12_init 1393 = .ok (.putfield 672, 3) := by decide +kernel
theorem dX12_init_1396 : decode cX12_init 1396 = .ok (.aload_n 0, 1) := by decide +kernel
theorem dX12_init_1397 : decode cX12_init 1397 = .ok (.sipush 400, 3) := by decide +kernel
theorem dX12_init_1400 : decode cX12_init 1400 = .ok (.newarray .int, 2) := by decide +kernel
theorem dX12_init_1402 : decode cX12_init 1402 = .ok (.putfield 675, 3) := by decide +kernel
theorem dX12_init_1405 : decode cX12_init 1405 = .ok (.aload_n 0, 1) := by decide +kernel
theorem dX12_init_1406 : decode cX12_init 1406 = .ok (.bipush 8, 2) := by decide +kernel
theorem dX12_init_1408 : decode cX12_init 1408 = .ok (.newarray .int, 2) := by decide +kernel
theorem dX12_init_1410 : decode cX12_init 1410 = .ok (.putfield 713, 3) := by decide +kernel
theorem dX12_init_1413 : decode cX12_init 1413 = .ok (.aload_n 0, 1) := by decide +kernel
theorem dX12_init_1414 : decode cX12_init 1414 = .ok (.bipush 8, 2) := by decide +kernel
theorem dX12_init_1416 : decode cX12_init 1416 = .ok (.newarray .int, 2) := by decide +kernel
theorem dX12_init_1418 : decode cX12_init 1418 = .ok (.putfield 716, 3) := by decide +kernel
theorem dX12_init_1421 : decode cX12_init 1421 = .ok (.aload_n 0, 1) := by decide +kernel
theorem dX12_init_1422 : decode cX12_init 1422 = .ok (.bipush 8, 2) := by decide +kernel
theorem dX12_init_1424 : decode cX12_init 1424 = .ok (.newarray .boolean, 2) := by decide +kernel
theorem dX12_init_1426 : decode cX12_init 1426 = .ok (.putfield 719, 3) := by decide +kernel
theorem dX12_init_1429 : decode cX12_init 1429 = .ok (.aload_n 0, 1) := by decide +kernel
theorem dX12_init_1430 : decode cX12_init 1430 = .ok (.bipush 8, 2) := by decide +kernel
theorem dX12_init_1432 : decode cX12_init 1432 = .ok (.newarray .boolean, 2) := by decide +kernel
theorem dX12_init_1434 : decode cX12_init 1434 = .ok (.putfield 723, 3) := by decide +kernel
theorem dX12_init_1437 : decode cX12_init 1437 = .ok (.aload_n 0, 1) := by decide +kernel
theorem dX12_init_1438 : decode cX12_init 1438 = .ok (.iconst (-1), 1) := by decide +kernel
theorem dX12_init_1439 : decode cX12_init 1439 = .ok (.putfield 726, 3) := by decide +kernel
theorem dX12_init_1442 : decode cX12_init 1442 = .ok (.aload_n 0, 1) := by decide +kernel
theorem dX12_init_1443 : decode cX12_init 1443 = .ok (.iconst (-1), 1) := by decide +kernel
theorem dX12_init_1444 : decode cX12_init 1444 = .ok (.putfield 729, 3) := by decide +kernel
theorem dX12_init_1447 : decode cX12_init 1447 = .ok (.aload_n 0, 1) := by decide +kernel
theorem dX12_init_1448 : decode cX12_init 1448 = .ok (.iconst (-1), 1) := by decide +kernel
theorem dX12_init_1449 : decode cX12_init 1449 = .ok (.putfield 732, 3) := by decide +kernel
theorem dX12_init_1452 : decode cX12_init 1452 = .ok (.aload_n 0, 1) := by decide +kernel
theorem dX12_init_1453 : decode cX12_init 1453 = .ok (.sipush 400, 3) := by decide +kernel
theorem dX12_init_1456 : decode cX12_init 1456 = .ok (.newarray .long, 2) := by decide +kernel
theorem dX12_init_1458 : decode cX12_init 1458 = .ok (.putfield 735, 3) := by decide +kernel
theorem dX12_init_1461 : decode cX12_init 1461 = .ok (.aload_n 0, 1) := by decide +kernel
theorem dX12_init_1462 : decode cX12_init 1462 = .ok (.sipush 400, 3) := by decide +kernel
theorem dX12_init_1465 : decode cX12_init 1465 = .ok (.newarray .long, 2) := by decide +kernel
theorem dX12_init_1467 : decode cX12_init 1467 = .ok (.putfield 738, 3) := by decide +kernel
theorem dX12_init_1470 : decode cX12_init 1470 = .ok (.aload_n 0, 1) := by decide +kernel
theorem dX12_init_1471 : decode cX12_init 1471 = .ok (.sipush 400, 3) := by decide +kernel
theorem dX12_init_1474 : decode cX12_init 1474 = .ok (.newarray .int, 2) := by decide +kernel
theorem dX12_init_1476 : decode cX12_init 1476 = .ok (.putfield 741, 3) := by decide +kernel
theorem dX12_init_1479 : decode cX12_init 1479 = .ok (.aload_n 0, 1) := by decide +kernel
theorem dX12_init_1480 : decode cX12_init 1480 = .ok (.sipush 400, 3) := by decide +kernel
theorem dX12_init_1483 : decode cX12_init 1483 = .ok (.newarray .int, 2) := by decide +kernel
theorem dX12_init_1485 : decode cX12_init 1485 = .ok (.putfield 744, 3) := by decide +kernel
theorem dX12_init_1488 : decode cX12_init 1488 = .ok (.aload_n 0, 1) := by decide +kernel
theorem dX12_init_1489 : decode cX12_init 1489 = .ok (.sipush 400, 3) := by decide +kernel
theorem dX12_init_1492 : decode cX12_init 1492 = .ok (.newarray .int, 2) := by decide +kernel
theorem dX12_init_1494 : decode cX12_init 1494 = .ok (.putfield 747, 3) := by decide +kernel
theorem dX12_init_1497 : decode cX12_init 1497 = .ok (.aload_n 0, 1) := by decide +kernel
theorem dX12_init_1498 : decode cX12_init 1498 = .ok (.sipush 400, 3) := by decide +kernel
theorem dX12_init_1501 : decode cX12_init 1501 = .ok (.newarray .int, 2) := by decide +kernel
theorem dX12_init_1503 : decode cX12_init 1503 = .ok (.putfield 750, 3) := by decide +kernel
theorem dX12_init_1506 : decode cX12_init 1506 = .ok (.aload_n 0, 1) := by decide +kernel
theorem dX12_init_1507 : decode cX12_init 1507 = .ok (.sipush 400, 3) := by decide +kernel
theorem dX12_init_1510 : decode cX12_init 1510 = .ok (.newarray .int, 2) := by decide +kernel
theorem dX12_init_1512 : decode cX12_init 1512 = .ok (.putfield 753, 3) := by decide +kernel
theorem dX12_init_1515 : decode cX12_init 1515 = .ok (.aload_n 0, 1) := by decide +kernel
theorem dX12_init_1516 : decode cX12_init 1516 = .ok (.sipush 400, 3) := by decide +kernel
theorem dX12_init_1519 : decode cX12_init 1519 = .ok (.newarray .int, 2) := by decide +kernel
theorem dX12_init_1521 : decode cX12_init 1521 = .ok (.putfield 756, 3) := by decide +kernel
theorem dX12_init_1524 : decode cX12_init 1524 = .ok (.aload_n 0, 1) := by decide +kernel
theorem dX12_init_1525 : decode cX12_init 1525 = .ok (.sipush 400, 3) := by decide +kernel
theorem dX12_init_1528 : decode cX12_init 1528 = .ok (.newarray .int, 2) := by decide +kernel
theorem dX12_init_1530 : decode cX12_init 1530 = .ok (.putfield 759, 3) := by decide +kernel
theorem dX12_init_1533 : decode cX12_init 1533 = .ok (.aload_n 0, 1) := by decide +kernel
theorem dX12_init_1534 : decode cX12_init 1534 = .ok (.sipush 400, 3) := by decide +kernel
theorem dX12_init_1537 : decode cX12_init 1537 = .ok (.newarray .long, 2) := by decide +kernel
theorem dX12_init_1539 : decode cX12_init 1539 = .ok (.putfield 762, 3) := by decide +kernel
theorem dX12_init_1542 : decode cX12_init 1542 = .ok (.aload_n 0, 1) := by decide +kernel
theorem dX12_init_1543 : decode cX12_init 1543 = .ok (.sipush 400, 3) := by decide +kernel
theorem dX12_init_1546 : decode cX12_init 1546 = .ok (.newarray .long, 2) := by decide +kernel
theorem dX12_init_1548 : decode cX12_init 1548 = .ok (.putfield 765, 3) := by decide +kernel
theorem dX12_init_1551 : decode cX12_init 1551 = .ok (.aload_n 0, 1) := by decide +kernel
theorem dX12_init_1552 : decode cX12_init 1552 = .ok (.sipush 400, 3) := by decide +kernel
theorem dX12_init_1555 : decode cX12_init 1555 = .ok (.newarray .int, 2) := by decide +kernel
theorem dX12_init_1557 : decode cX12_init 1557 = .ok (.putfield 768, 3) := by decide +kernel
theorem dX12_init_1560 : decode cX12_init 1560 = .ok (.aload_n 0, 1) := by decide +kernel
theorem dX12_init_1561 : decode cX12_init 1561 = .ok (.sipush 400, 3) := by decide +kernel
theorem dX12_init_1564 : decode cX12_init 1564 = .ok (.newarray .int, 2) := by decide +kernel
theorem dX12_init_1566 : decode cX12_init 1566 = .ok (.putfield 771, 3) := by decide +kernel
theorem dX12_init_1569 : decode cX12_init 1569 = .ok (.aload_n 0, 1) := by decide +kernel
theorem dX12_init_1570 : decode cX12_init 1570 = .ok (.sipush 400, 3) := by decide +kernel
theorem dX12_init_1573 : decode cX12_init 1573 = .ok (.newarray .int, 2) := by decide +kernel
theorem dX12_init_1575 : decode cX12_init 1575 = .ok (.putfield 774, 3) := by decide +kernel
theorem dX12_init_1578 : decode cX12_init 1578 = .ok (.aload_n 0, 1) := by decide +kernel
theorem dX12_init_1579 : decode cX12_init 1579 = .ok (.sipush 400, 3) := by decide +kernel
theorem dX12_init_1582 : decode cX12_init 1582 = .ok (.newarray .int, 2) := by decide +kernel
theorem dX12_init_1584 : decode cX12_init 1584 = .ok (.putfield 777, 3) := by decide +kernel
theorem dX12_init_1587 : decode cX12_init 1587 = .ok (.aload_n 0, 1) := by decide +kernel
theorem dX12_init_1588 : decode cX12_init 1588 = .ok (.sipush 3300, 3) := by decide +kernel
theorem dX12_init_1591 : decode cX12_init 1591 = .ok (.newarray .int, 2) := by decide +kernel
theorem dX12_init_1593 : decode cX12_init 1593 = .ok (.putfield 780, 3) := by decide +kernel
theorem dX12_init_1596 : decode cX12_init 1596 = .ok (.aload_n 0, 1) := by decide +kernel
theorem dX12_init_1597 : decode cX12_init 1597 = .ok (.sipush 3300, 3) := by decide +kernel
theorem dX12_init_1600 : decode cX12_init 1600 = .ok (.newarray .int, 2) := by decide +kernel
theorem dX12_init_1602 : decode cX12_init 1602 = .ok (.putfield 783, 3) := by decide +kernel
theorem dX12_init_1605 : decode cX12_init 1605 = .ok (.aload_n 0, 1) := by decide +kernel
theorem dX12_init_1606 : decode cX12_init 1606 = .ok (.sipush 3300, 3) := by decide +kernel
theorem dX12_init_1609 : decode cX12_init 1609 = .ok (.newarray .long, 2) := by decide +kernel
theorem dX12_init_1611 : decode cX12_init 1611 = .ok (.putfield 786, 3) := by decide +kernel
theorem dX12_init_1614 : decode cX12_init 1614 = .ok (.aload_n 0, 1) := by decide +kernel
theorem dX12_init_1615 : decode cX12_init 1615 = .ok (.sipush 3300, 3) := by decide +kernel
theorem dX12_init_1618 : decode cX12_init 1618 = .ok (.newarray .long, 2) := by decide +kernel
theorem dX12_init_1620 : decode cX12_init 1620 = .ok (.putfield 789, 3) := by decide +kernel
theorem dX12_init_1623 : decode cX12_init 1623 = .ok (.aload_n 0, 1) := by decide +kernel
theorem dX12_init_1624 : decode cX12_init 1624 = .ok (.sipush 3300, 3) := by decide +kernel
theorem dX12_init_1627 : decode cX12_init 1627 = .ok (.newarray .int, 2) := by decide +kernel
theorem dX12_init_1629 : decode cX12_init 1629 = .ok (.putfield 792, 3) := by decide +kernel
theorem dX12_init_1632 : decode cX12_init 1632 = .ok (.aload_n 0, 1) := by decide +kernel
theorem dX12_init_1633 : decode cX12_init 1633 = .ok (.sipush 3300, 3) := by decide +kernel
theorem dX12_init_1636 : decode cX12_init 1636 = .ok (.newarray .int, 2) := by decide +kernel
theorem dX12_init_1638 : decode cX12_init 1638 = .ok (.putfield 795, 3) := by decide +kernel
theorem dX12_init_1641 : decode cX12_init 1641 = .ok (.aload_n 0, 1) := by decide +kernel
theorem dX12_init_1642 : decode cX12_init 1642 = .ok (.sipush 3300, 3) := by decide +kernel
theorem dX12_init_1645 : decode cX12_init 1645 = .ok (.newarray .int, 2) := by decide +kernel
theorem dX12_init_1647 : decode cX12_init 1647 = .ok (.putfield 798, 3) := by decide +kernel
theorem dX12_init_1650 : decode cX12_init 1650 = .ok (.aload_n 0, 1) := by decide +kernel
theorem dX12_init_1651 : decode cX12_init 1651 = .ok (.sipush 3300, 3) := by decide +kernel
theorem dX12_init_1654 : decode cX12_init 1654 = .ok (.newarray .int, 2) := by decide +kernel
theorem dX12_init_1656 : decode cX12_init 1656 = .ok (.putfield 801, 3) := by decide +kernel
theorem dX12_init_1659 : decode cX12_init 1659 = .ok (.aload_n 0, 1) := by decide +kernel
theorem dX12_init_1660 : decode cX12_init 1660 = .ok (.sipush 3300, 3) := by decide +kernel
theorem dX12_init_1663 : decode cX12_init 1663 = .ok (.newarray .int, 2) := by decide +kernel
theorem dX12_init_1665 : decode cX12_init 1665 = .ok (.putfield 804, 3) := by decide +kernel
theorem dX12_init_1668 : decode cX12_init 1668 = .ok (.iconst 0, 1) := by decide +kernel
theorem dX12_init_1669 : decode cX12_init 1669 = .ok (.istore_n 1, 1) := by decide +kernel
theorem dX12_init_1670 : decode cX12_init 1670 = .ok (.iload_n 1, 1) := by decide +kernel
theorem dX12_init_1671 : decode cX12_init 1671 = .ok (.bipush 8, 2) := by decide +kernel
theorem dX12_init_1673 : decode cX12_init 1673 = .ok (.if_icmp .ge 24, 3) := by decide +kernel
theorem dX12_init_1676 : decode cX12_init 1676 = .ok (.aload_n 0, 1) := by decide +kernel
theorem dX12_init_1677 : decode cX12_init 1677 = .ok (.getfield 713, 3) := by decide +kernel
theorem dX12_init_1680 : decode cX12_init 1680 = .ok (.iload_n 1, 1) := by decide +kernel
theorem dX12_init_1681 : decode cX12_init 1681 = .ok (.iconst (-1), 1) := by decide +kernel
theorem dX12_init_1682 : decode cX12_init 1682 = .ok (.iastore, 1) := by decide +kernel
theorem dX12_init_1683 : decode cX12_init 1683 = .ok (.aload_n 0, 1) := by decide +kernel
theorem dX12_init_1684 : decode cX12_init 1684 = .ok (.getfield 716, 3) := by decide +kernel
theorem dX12_init_1687 : decode cX12_init 1687 = .ok (.iload_n 1, 1) := by decide +kernel
theorem dX12_init_1688 : decode cX12_init 1688 = .ok (.bipush (-2), 2) := by decide +kernel
theorem dX12_init_1690 : decode cX12_init 1690 = .ok (.iastore, 1) := by decide +kernel
theorem dX12_init_1691 : decode cX12_init 1691 = .ok (.iinc 1 1, 3) := by decide +kernel
theorem dX12_init_1694 : decode cX12_init 1694 = .ok (.goto (-24), 3) := by decide +kernel
theorem dX12_init_1697 : decode cX12_init 1697 = .ok (.return_, 1) := by decide +kernel
