theorem dX6_init_0 : decode cX6_init 0 = .ok (.aload_n 0, 1) := by decide +kernel
theorem dX6_init_1 : decode cX6_init 1 = .ok (.invokespecial 1, 3) := by decide +kernel
theorem dX6_init_4 : decode cX6_init 4 = .ok (.aload_n 0, 1) := by decide +kernel
theorem dX6_init_5 : decode cX6_init 5 = .ok (.bipush 61, 2) := by decide +kernel
theorem dX6_init_7 : decode cX6_init 7 = .ok (.newarray .int, 2) := by decide +kernel
theorem dX6_init_9 : decode cX6_init 9 = .ok (.putfield 7, 3) := by decide +kernel
theorem dX6_init_12 : decode cX6_init 12 = .ok (.aload_n 0, 1) := by decide +kernel
theorem dX6_init_13 : decode cX6_init 13 = .ok (.bipush 61, 2) := by decide +kernel
theorem dX6_init_15 : decode cX6_init 15 = .ok (.newarray .int, 2) := by decide +kernel
theorem dX6_init_17 : decode cX6_init 17 = .ok (.putfield 13, 3) := by decide +kernel
theorem dX6_init_20 : decode cX6_init 20 = .ok (.aload_n 0, 1) := by decide +kernel
theorem dX6_init_21 : decode cX6_init 21 = .ok (.bipush 61, 2) := by decide +kernel
theorem dX6_init_23 : decode cX6_init 23 = .ok (.newarray .int, 2) := by decide +kernel
theorem dX6_init_25 : decode cX6_init 25 = .ok (.putfield 16, 3) := by decide +kernel
theorem dX6_init_28 : decode cX6_init 28 = .ok (.aload_n 0, 1) := by decide +kernel
theorem dX6_init_29 : decode cX6_init 29 = .ok (.bipush 61, 2) := by decide +kernel
theorem dX6_init_31 : decode cX6_init 31 = .ok (.newarray .boolean, 2) := by decide +kernel
theorem dX6_init_33 : decode cX6_init 33 = .ok (.putfield 19, 3) := by decide +kernel
theorem dX6_init_36 : decode cX6_init 36 = .ok (.aload_n 0, 1) := by decide +kernel
theorem dX6_init_37 : decode cX6_init 37 = .ok (.sipush 366, 3) := by decide +kernel
theorem dX6_init_40 : decode cX6_init 40 = .ok (.newarray .long, 2) := by decide +kernel
theorem dX6_init_42 : decode cX6_init 42 = .ok (.putfield 23, 3) := by decide +kernel
theorem dX6_init_45 : decode cX6_init 45 = .ok (.aload_n 0, 1) := by decide +kernel
theorem dX6_init_46 : decode cX6_init 46 = .ok (.sipush 732, 3) := by decide +kernel
theorem dX6_init_49 : decode cX6_init 49 = .ok (.newarray .byte, 2) := by decide +kernel
theorem dX6_init_51 : decode cX6_init 51 = .ok (.putfield 27, 3) := by decide +kernel
theorem dX6_init_54 : decode cX6_init 54 = .ok (.aload_n 0, 1) := by decide +kernel
theorem dX6_init_55 : decode cX6_init 55 = .ok (.bipush 61, 2) := by decide +kernel
theorem dX6_init_57 : decode cX6_init 57 = .ok (.newarray .int, 2) := by decide +kernel
theorem dX6_init_59 : decode cX6_init 59 = .ok (.putfield 31, 3) := by decide +kernel
theorem dX6_init_62 : decode cX6_init 62 = .ok (.aload_n 0, 1) := by decide +kernel
theorem dX6_init_63 : decode cX6_init 63 = .ok (.bipush 61, 2) := by decide +kernel
theorem dX6_init_65 : decode cX6_init 65 = .ok (.newarray .int, 2) := by decide +kernel
theorem dX6_init_67 : decode cX6_init 67 = .ok (.putfield 34, 3) := by decide +kernel
theorem dX6_init_70 : decode cX6_init 70 = .ok (.aload_n 0, 1) := by decide +kernel
theorem dX6_init_71 : decode cX6_init 71 = .ok (.sipush 300, 3) := by decide +kernel
theorem dX6_init_74 : decode cX6_init 74 = .ok (.newarray .int, 2) := by decide +kernel
theorem dX6_init_76 : decode cX6_init 76 = .ok (.putfield 37, 3) := by decide +kernel
theorem dX6_init_79 : decode cX6_init 79 = .ok (.aload_n 0, 1) := by decide +kernel
theorem dX6_init_80 : decode cX6_init 80 = .ok (.sipush 300, 3) := by decide +kernel
theorem dX6_init_83 : decode cX6_init 83 = .ok (.newarray .int, 2) := by decide +kernel
theorem dX6_init_85 : decode cX6_init 85 = .ok (.putfield 40, 3) := by decide +kernel
theorem dX6_init_88 : decode cX6_init 88 = .ok (.aload_n 0, 1) := by decide +kernel
theorem dX6_init_89 : decode cX6_init 89 = .ok (.sipush 300, 3) := by decide +kernel
theorem dX6_init_92 : decode cX6_init 92 = .ok (.newarray .boolean, 2) := by decide +kernel
theorem dX6_init_94 : decode cX6_init 94 = .ok (.putfield 43, 3) := by decide +kernel
theorem dX6_init_97 : decode cX6_init 97 = .ok (.aload_n 0, 1) := by decide +kernel
theorem dX6_init_98 : decode cX6_init 98 = .ok (.sipush 201, 3) := by decide +kernel
theorem dX6_init_101 : decode cX6_init 101 = .ok (.newarray .int, 2) := by decide +kernel
theorem dX6_init_103 : decode cX6_init 103 = .ok (.putfield 46, 3) := by decide +kernel
theorem dX6_init_106 : decode cX6_init 106 = .ok (.aload_n 0, 1) := by decide +kernel
theorem dX6_init_107 : decode cX6_init 107 = .ok (.sipush 201, 3) := by decide +kernel
theorem dX6_init_110 : decode cX6_init 110 = .ok (.newarray .int, 2) := by decide +kernel
theorem dX6_init_112 : decode cX6_init 112 = .ok (.putfield 49, 3) := by decide +kernel
theorem dX6_init_115 : decode cX6_init 115 = .ok (.aload_n 0, 1) := by decide +kernel
theorem dX6_init_116 : decode cX6_init 116 = .ok (.sipush 201, 3) := by decide +kernel
theorem dX6_init_119 : decode cX6_init 119 = .ok (.newarray .int, 2) := by decide +kernel
theorem dX6_init_121 : decode cX6_init 121 = .ok (.putfield 52, 3) := by decide +kernel
theorem dX6_init_124 : decode cX6_init 124 = .ok (.aload_n 0, 1) := by decide +kernel
theorem dX6_init_125 : decode cX6_init 125 = .ok (.sipush 201, 3) := by decide +kernel
theorem dX6_init_128 : decode cX6_init 128 = .ok (.newarray .long, 2) := by decide +kernel
theorem dX6_init_130 : decode cX6_init 130 = .ok (.putfield 55, 3) := by decide +kernel
theorem dX6_init_133 : decode cX6_init 133 = .ok (.aload_n 0, 1) := by decide +kernel
theorem dX6_init_134 : decode cX6_init 134 = .ok (.sipush 201, 3) := by decide +kernel
theorem dX6_init_137 : decode cX6_init 137 = .ok (.newarray .long, 2) := by decide +kernel
theorem dX6_init_139 : decode cX6_init 139 = .ok (.putfield 58, 3) := by decide +kernel
theorem dX6_init_142 : decode cX6_init 142 = .ok (.aload_n 0, 1) := by decide +kernel
theorem dX6_init_143 : decode cX6_init 143 = .ok (.sipush 201, 3) := by decide +kernel
theorem dX6_init_146 : decode cX6_init 146 = .ok (.newarray .boolean, 2) := by decide +kernel
theorem dX6_init_148 : decode cX6_init 148 = .ok (.putfield 61, 3) := by decide +kernel
theorem dX6_init_151 : decode cX6_init 151 = .ok (.aload_n 0, 1) := by decide +kernel
theorem dX6_init_152 : decode cX6_init 152 = .ok (.iconst 5, 1) := by decide +kernel
theorem dX6_init_153 : decode cX6_init 153 = .ok (.newarray .int, 2) := by decide +kernel
theorem dX6_init_155 : decode cX6_init 155 = .ok (.putfield 64, 3) := by decide +kernel
theorem dX6_init_158 : decode cX6_init 158 = .ok (.aload_n 0, 1) := by decide +kernel
theorem dX6_init_159 : decode cX6_init 159 = .ok (.bipush 40, 2) := by decide +kernel
theorem dX6_init_161 : decode cX6_init 161 = .ok (.newarray .byte, 2) := by decide +kernel
theorem dX6_init_163 : decode cX6_init 163 = .ok (.putfield 67, 3) := by decide +kernel
theorem dX6_init_166 : decode cX6_init 166 = .ok (.aload_n 0, 1) := by decide +kernel
theorem dX6_init_167 : decode cX6_init 167 = .ok (.bipush 13, 2) := by decide +kernel
theorem dX6_init_169 : decode cX6_init 169 = .ok (.newarray .int, 2) := by decide +kernel
theorem dX6_init_171 : decode cX6_init 171 = .ok (.putfield 70, 3) := by decide +kernel
theorem dX6_init_174 : decode cX6_init 174 = .ok (.aload_n 0, 1) := by decide +kernel
theorem dX6_init_175 : decode cX6_init 175 = .ok (.bipush 13, 2) := by decide +kernel
theorem dX6_init_177 : decode cX6_init 177 = .ok (.newarray .int, 2) := by decide +kernel
theorem dX6_init_179 : decode cX6_init 179 = .ok (.putfield 73, 3) := by decide +kernel
theorem dX6_init_182 : decode cX6_init 182 = .ok (.iconst 0, 1) := by decide +kernel
theorem dX6_init_183 : decode cX6_init 183 = .ok (.istore_n 1, 1) := by decide +kernel
theorem dX6_init_184 : decode cX6_init 184 = .ok (.iload_n 1, 1) := by decide +kernel
theorem dX6_init_185 : decode cX6_init 185 = .ok (.sipush 366, 3) := by decide +kernel
theorem dX6_init_188 : decode cX6_init 188 = .ok (.if_icmp .ge 18, 3) := by decide +kernel
theorem dX6_init_191 : decode cX6_init 191 = .ok (.aload_n 0, 1) := by decide +kernel
theorem dX6_init_192 : decode cX6_init 192 = .ok (.getfield 23, 3) := by decide +kernel
theorem dX6_init_195 : decode cX6_init 195 = .ok (.iload_n 1, 1) := by decide +kernel
theorem dX6_init_196 : decode cX6_init 196 = .ok (.ldc2_w 76, 3) := by decide +kernel
theorem dX6_init_199 : decode cX6_init 199 = .ok (.lastore, 1) := by decide +kernel
theorem dX6_init_200 : decode cX6_init 200 = .ok (.iinc 1 1, 3) := by decide +kernel
theorem dX6_init_203 : decode cX6_init 203 = .ok (.goto (-19), 3) := by decide +kernel
theorem dX6_init_206 : decode cX6_init 206 = .ok (.iconst 0, 1) := by decide +kernel
theorem dX6_init_207 : decode cX6_init 207 = .ok (.istore_n 1, 1) := by decide +kernel
theorem dX6_init_208 : decode cX6_init 208 = .ok (.iload_n 1, 1) := by decide +kernel
theorem dX6_init_209 : decode cX6_init 209 = .ok (.iconst 5, 1) := by decide +kernel
theorem dX6_init_210 : decode cX6_init 210 = .ok (.if_icmp .ge 17, 3) := by decide +kernel
theorem dX6_init_213 : decode cX6_init 213 = .ok (.aload_n 0, 1) := by decide +kernel
theorem dX6_init_214 : decode cX6_init 214 = .ok (.getfield 64, 3) := by decide +kernel
theorem dX6_init_217 : decode cX6_init 217 = .ok (.iload_n 1, 1) := by decide +kernel
theorem dX6_init_218 : decode cX6_init 218 = .ok (.bipush 30, 2) := by decide +kernel
theorem dX6_init_220 : decode cX6_init 220 = .ok (.iastore, 1) := by decide +kernel
theorem dX6_init_221 : decode cX6_init 221 = .ok (.iinc 1 1, 3) := by decide +kernel
theorem dX6_init_224 : decode cX6_init 224 = .ok (.goto (-16), 3) := by decide +kernel
theorem dX6_init_227 : decode cX6_init 227 = .ok (.return_, 1) := by decide +kernel
theorem dX6_who_0 : decode cX6_who 0 = .ok (.iload_n 1, 1) := by decide +kernel
theorem dX6_who_1 : decode cX6_who 1 = .ok (.iconst 1, 1) := by decide +kernel
theorem dX6_who_2 : decode cX6_who 2 = .ok (.if_icmp .lt 11, 3) := by decide +kernel
theorem dX6_who_5 : decode cX6_who 5 = .ok (.iload_n 1, 1) := by decide +kernel
theorem dX6_who_6 : decode cX6_who 6 = .ok (.aload_n 0, 1) := by decide +kernel
theorem dX6_who_7 : decode cX6_who 7 = .ok (.getfield 82, 3) := by decide +kernel
theorem dX6_who_10 : decode cX6_who 10 = .ok (.if_icmp .le 5, 3) := by decide +kernel
theorem dX6_who_13 : decode cX6_who 13 = .ok (.iconst 0, 1) := by decide +kernel
theorem dX6_who_14 : decode cX6_who 14 = .ok (.ireturn, 1) := by decide +kernel
theorem dX6_who_15 : decode cX6_who 15 = .ok (.iload_n 1, 1) := by decide +kernel
theorem dX6_who_16 : decode cX6_who 16 = .ok (.istore_n 2, 1) := by decide +kernel
theorem dX6_who_17 : decode cX6_who 17 = .ok (.aload_n 0, 1) := by decide +kernel
theorem dX6_who_18 : decode cX6_who 18 = .ok (.getfield 7, 3) := by decide +kernel
theorem dX6_who_21 : decode cX6_who 21 = .ok (.iload_n 2, 1) := by decide +kernel
theorem dX6_who_22 : decode cX6_who 22 = .ok (.iaload, 1) := by decide +kernel
theorem dX6_who_23 : decode cX6_who 23 = .ok (.ifCond .eq 13, 3) := by decide +kernel
theorem dX6_who_26 : decode cX6_who 26 = .ok (.aload_n 0, 1) := by decide +kernel
theorem dX6_who_27 : decode cX6_who 27 = .ok (.getfield 7, 3) := by decide +kernel
theorem dX6_who_30 : decode cX6_who 30 = .ok (.iload_n 2, 1) := by decide +kernel
theorem dX6_who_31 : decode cX6_who 31 = .ok (.iaload, 1) := by decide +kernel
theorem dX6_who_32 : decode cX6_who 32 = .ok (.istore_n 2, 1) := by decide +kernel
theorem dX6_who_33 : decode cX6_who 33 = .ok (.goto (-16), 3) := by decide +kernel
theorem dX6_who_36 : decode cX6_who 36 = .ok (.iload_n 2, 1) := by decide +kernel
theorem dX6_who_37 : decode cX6_who 37 = .ok (.ireturn, 1) := by decide +kernel
theorem dX6_isDay_0 : decode cX6_isDay 0 = .ok (.lload_n 0, 1) := by decide +kernel
theorem dX6_isDay_1 : decode cX6_isDay 1 = .ok (.lconst 0, 1) := by decide +kernel
theorem dX6_isDay_2 : decode cX6_isDay 2 = .ok (.lcmp, 1) := by decide +kernel
theorem dX6_isDay_3 : decode cX6_isDay 3 = .ok (.ifCond .lt 15, 3) := by decide +kernel
theorem dX6_isDay_6 : decode cX6_isDay 6 = .ok (.lload_n 0, 1) := by decide +kernel
theorem dX6_isDay_7 : decode cX6_isDay 7 = .ok (.ldc2_w 85, 3) := by decide +kernel
theorem dX6_isDay_10 : decode cX6_isDay 10 = .ok (.lcmp, 1) := by decide +kernel
theorem dX6_isDay_11 : decode cX6_isDay 11 = .ok (.ifCond .gt 7, 3) := by decide +kernel
theorem dX6_isDay_14 : decode cX6_isDay 14 = .ok (.iconst 1, 1) := by decide +kernel
theorem dX6_isDay_15 : decode cX6_isDay 15 = .ok (.goto 4, 3) := by decide +kernel
theorem dX6_isDay_18 : decode cX6_isDay 18 = .ok (.iconst 0, 1) := by decide +kernel
theorem dX6_isDay_19 : decode cX6_isDay 19 = .ok (.ireturn, 1) := by decide +kernel
theorem dX6_isKind_0 : decode cX6_isKind 0 = .ok (.iload_n 0, 1) := by decide +kernel
theorem dX6_isKind_1 : decode cX6_isKind 1 = .ok (.ifCond .lt 12, 3) := by decide +kernel
theorem dX6_isKind_4 : decode cX6_isKind 4 = .ok (.iload_n 0, 1) := by decide +kernel
theorem dX6_isKind_5 : decode cX6_isKind 5 = .ok (.iconst 5, 1) := by decide +kernel
theorem dX6_isKind_6 : decode cX6_isKind 6 = .ok (.if_icmp .ge 7, 3) := by decide +kernel
theorem dX6_isKind_9 : decode cX6_isKind 9 = .ok (.iconst 1, 1) := by decide +kernel
theorem dX6_isKind_10 : decode cX6_isKind 10 = .ok (.goto 4, 3) := by decide +kernel
theorem dX6_isKind_13 : decode cX6_isKind 13 = .ok (.iconst 0, 1) := by decide +kernel
theorem dX6_isKind_14 : decode cX6_isKind 14 = .ok (.ireturn, 1) := by decide +kernel
theorem dX6_reader_0 : decode cX6_reader 0 = .ok (.aload_n 0, 1) := by decide +kernel
theorem dX6_reader_1 : decode cX6_reader 1 = .ok (.iconst 0, 1) := by decide +kernel
theorem dX6_reader_2 : decode cX6_reader 2 = .ok (.putfield 78, 3) := by decide +kernel
theorem dX6_reader_5 : decode cX6_reader 5 = .ok (.aload_n 0, 1) := by decide +kernel
theorem dX6_reader_6 : decode cX6_reader 6 = .ok (.iload_n 2, 1) := by decide +kernel
theorem dX6_reader_7 : decode cX6_reader 7 = .ok (.invokevirtual 87, 3) := by decide +kernel
theorem dX6_reader_10 : decode cX6_reader 10 = .ok (.istore_n 3, 1) := by decide +kernel
theorem dX6_reader_11 : decode cX6_reader 11 = .ok (.iload_n 1, 1) := by decide +kernel
theorem dX6_reader_12 : decode cX6_reader 12 = .ok (.invokestatic 91, 3) := by decide +kernel
theorem dX6_reader_15 : decode cX6_reader 15 = .ok (.ifCond .eq 29, 3) := by decide +kernel
theorem dX6_reader_18 : decode cX6_reader 18 = .ok (.iload_n 2, 1) := by decide +kernel
theorem dX6_reader_19 : decode cX6_reader 19 = .ok (.ifCond .eq 16, 3) := by decide +kernel
theorem dX6_reader_22 : decode cX6_reader 22 = .ok (.iload_n 3, 1) := by decide +kernel
theorem dX6_reader_23 : decode cX6_reader 23 = .ok (.ifCond .eq 21, 3) := by decide +kernel
theorem dX6_reader_26 : decode cX6_reader 26 = .ok (.aload_n 0, 1) := by decide +kernel
theorem dX6_reader_27 : decode cX6_reader 27 = .ok (.getfield 16, 3) := by decide +kernel
theorem dX6_reader_30 : decode cX6_reader 30 = .ok (.iload_n 3, 1) := by decide +kernel
theorem dX6_reader_31 : decode cX6_reader 31 = .ok (.iaload, 1) := by decide +kernel
theorem dX6_reader_32 : decode cX6_reader 32 = .ok (.ifCond .ne 12, 3) := by decide +kernel
theorem dX6_reader_35 : decode cX6_reader 35 = .ok (.aload_n 0, 1) := by decide +kernel
theorem dX6_reader_36 : decode cX6_reader 36 = .ok (.getfield 82, 3) := by decide +kernel
theorem dX6_reader_39 : decode cX6_reader 39 = .ok (.bipush 60, 2) := by decide +kernel
theorem dX6_reader_41 : decode cX6_reader 41 = .ok (.if_icmp .ne 5, 3) := by decide +kernel
theorem dX6_reader_44 : decode cX6_reader 44 = .ok (.iconst 0, 1) := by decide +kernel
theorem dX6_reader_45 : decode cX6_reader 45 = .ok (.ireturn, 1) := by decide +kernel
theorem dX6_reader_46 : decode cX6_reader 46 = .ok (.aload_n 0, 1) := by decide +kernel
theorem dX6_reader_47 : decode cX6_reader 47 = .ok (.dup, 1) := by decide +kernel
theorem dX6_reader_48 : decode cX6_reader 48 = .ok (.getfield 82, 3) := by decide +kernel
theorem dX6_reader_51 : decode cX6_reader 51 = .ok (.iconst 1, 1) := by decide +kernel
theorem dX6_reader_52 : decode cX6_reader 52 = .ok (.iadd, 1) := by decide +kernel
theorem dX6_reader_53 : decode cX6_reader 53 = .ok (.putfield 82, 3) := by decide +kernel
theorem dX6_reader_56 : decode cX6_reader 56 = .ok (.aload_n 0, 1) := by decide +kernel
theorem dX6_reader_57 : decode cX6_reader 57 = .ok (.getfield 13, 3) := by decide +kernel
theorem dX6_reader_60 : decode cX6_reader 60 = .ok (.aload_n 0, 1) := by decide +kernel
theorem dX6_reader_61 : decode cX6_reader 61 = .ok (.getfield 82, 3) := by decide +kernel
theorem dX6_reader_64 : decode cX6_reader 64 = .ok (.iload_n 1, 1) := by decide +kernel
theorem dX6_reader_65 : decode cX6_reader 65 = .ok (.iastore, 1) := by decide +kernel
theorem dX6_reader_66 : decode cX6_reader 66 = .ok (.aload_n 0, 1) := by decide +kernel
theorem dX6_reader_67 : decode cX6_reader 67 = .ok (.getfield 16, 3) := by decide +kernel
theorem dX6_reader_70 : decode cX6_reader 70 = .ok (.aload_n 0, 1) := by decide +kernel
theorem dX6_reader_71 : decode cX6_reader 71 = .ok (.getfield 82, 3) := by decide +kernel
theorem dX6_reader_74 : decode cX6_reader 74 = .ok (.iload_n 3, 1) := by decide +kernel
theorem dX6_reader_75 : decode cX6_reader 75 = .ok (.iastore, 1) := by decide +kernel
theorem dX6_reader_76 : decode cX6_reader 76 = .ok (.aload_n 0, 1) := by decide +kernel
theorem dX6_reader_77 : decode cX6_reader 77 = .ok (.getfield 82, 3) := by decide +kernel
theorem dX6_reader_80 : decode cX6_reader 80 = .ok (.ireturn, 1) := by decide +kernel
theorem dX6_find_0 : decode cX6_find 0 = .ok (.iconst 0, 1) := by decide +kernel
theorem dX6_find_1 : decode cX6_find 1 = .ok (.istore_n 2, 1) := by decide +kernel
theorem dX6_find_2 : decode cX6_find 2 = .ok (.iload_n 2, 1) := by decide +kernel
theorem dX6_find_3 : decode cX6_find 3 = .ok (.aload_n 0, 1) := by decide +kernel
theorem dX6_find_4 : decode cX6_find 4 = .ok (.getfield 95, 3) := by decide +kernel
theorem dX6_find_7 : decode cX6_find 7 = .ok (.if_icmp .ge 21, 3) := by decide +kernel
theorem dX6_find_10 : decode cX6_find 10 = .ok (.aload_n 0, 1) := by decide +kernel
theorem dX6_find_11 : decode cX6_find 11 = .ok (.getfield 37, 3) := by decide +kernel
theorem dX6_find_14 : decode cX6_find 14 = .ok (.iload_n 2, 1) := by decide +kernel
theorem dX6_find_15 : decode cX6_find 15 = .ok (.iaload, 1) := by decide +kernel
theorem dX6_find_16 : decode cX6_find 16 = .ok (.iload_n 1, 1) := by decide +kernel
theorem dX6_find_17 : decode cX6_find 17 = .ok (.if_icmp .ne 5, 3) := by decide +kernel
theorem dX6_find_20 : decode cX6_find 20 = .ok (.iload_n 2, 1) := by decide +kernel
theorem dX6_find_21 : decode cX6_find 21 = .ok (.ireturn, 1) := by decide +kernel
theorem dX6_find_22 : decode cX6_find 22 = .ok (.iinc 2 1, 3) := by decide +kernel
theorem dX6_find_25 : decode cX6_find 25 = .ok (.goto (-23), 3) := by decide +kernel
theorem dX6_find_28 : decode cX6_find 28 = .ok (.iconst (-1), 1) := by decide +kernel
theorem dX6_find_29 : decode cX6_find 29 = .ok (.ireturn, 1) := by decide +kernel
theorem dX6_has_0 : decode cX6_has 0 = .ok (.iconst 0, 1) := by decide +kernel
theorem dX6_has_1 : decode cX6_has 1 = .ok (.istore_n 2, 1) := by decide +kernel
theorem dX6_has_2 : decode cX6_has 2 = .ok (.iconst 0, 1) := by decide +kernel
theorem dX6_has_3 : decode cX6_has 3 = .ok (.istore_n 3, 1) := by decide +kernel
theorem dX6_has_4 : decode cX6_has 4 = .ok (.iload_n 3, 1) := by decide +kernel
theorem dX6_has_5 : decode cX6_has 5 = .ok (.aload_n 0, 1) := by decide +kernel
theorem dX6_has_6 : decode cX6_has 6 = .ok (.getfield 95, 3) := by decide +kernel
theorem dX6_has_9 : decode cX6_has 9 = .ok (.if_icmp .ge 27, 3) := by decide +kernel
theorem dX6_has_12 : decode cX6_has 12 = .ok (.iload_n 2, 1) := by decide +kernel
theorem dX6_has_13 : decode cX6_has 13 = .ok (.aload_n 0, 1) := by decide +kernel
theorem dX6_has_14 : decode cX6_has 14 = .ok (.getfield 40, 3) := by decide +kernel
theorem dX6_has_17 : decode cX6_has 17 = .ok (.iload_n 3, 1) := by decide +kernel
theorem dX6_has_18 : decode cX6_has 18 = .ok (.iaload, 1) := by decide +kernel
theorem dX6_has_19 : decode cX6_has 19 = .ok (.iload_n 1, 1) := by decide +kernel
theorem dX6_has_20 : decode cX6_has 20 = .ok (.if_icmp .ne 7, 3) := by decide +kernel
theorem dX6_has_23 : decode cX6_has 23 = .ok (.iconst 1, 1) := by decide +kernel
theorem dX6_has_24 : decode cX6_has 24 = .ok (.goto 4, 3) := by decide +kernel
theorem dX6_has_27 : decode cX6_has 27 = .ok (.iconst 0, 1) := by decide +kernel
theorem dX6_has_28 : decode cX6_has 28 = .ok (.iadd, 1) := by decide +kernel
theorem dX6_has_29 : decode cX6_has 29 = .ok (.istore_n 2, 1) := by decide +kernel
theorem dX6_has_30 : decode cX6_has 30 = .ok (.iinc 3 1, 3) := by decide +kernel
theorem dX6_has_33 : decode cX6_has 33 = .ok (.goto (-29), 3) := by decide +kernel
theorem dX6_has_36 : decode cX6_has 36 = .ok (.iload_n 2, 1) := by decide +kernel
theorem dX6_has_37 : decode cX6_has 37 = .ok (.ireturn, 1) := by decide +kernel
theorem dX6_add_0 : decode cX6_add 0 = .ok (.aload_n 0, 1) := by decide +kernel
theorem dX6_add_1 : decode cX6_add 1 = .ok (.getfield 37, 3) := by decide +kernel
theorem dX6_add_4 : decode cX6_add 4 = .ok (.aload_n 0, 1) := by decide +kernel
theorem dX6_add_5 : decode cX6_add 5 = .ok (.getfield 95, 3) := by decide +kernel
theorem dX6_add_8 : decode cX6_add 8 = .ok (.iload_n 1, 1) := by decide +kernel
theorem dX6_add_9 : decode cX6_add 9 = .ok (.iastore, 1) := by decide +kernel
theorem dX6_add_10 : decode cX6_add 10 = .ok (.aload_n 0, 1) := by decide +kernel
theorem dX6_add_11 : decode cX6_add 11 = .ok (.getfield 40, 3) := by decide +kernel
theorem dX6_add_14 : decode cX6_add 14 = .ok (.aload_n 0, 1) := by decide +kernel
theorem dX6_add_15 : decode cX6_add 15 = .ok (.getfield 95, 3) := by decide +kernel
theorem dX6_add_18 : decode cX6_add 18 = .ok (.iload_n 2, 1) := by decide +kernel
theorem dX6_add_19 : decode cX6_add 19 = .ok (.iastore, 1) := by decide +kernel
theorem dX6_add_20 : decode cX6_add 20 = .ok (.aload_n 0, 1) := by decide +kernel
theorem dX6_add_21 : decode cX6_add 21 = .ok (.getfield 43, 3) := by decide +kernel
theorem dX6_add_24 : decode cX6_add 24 = .ok (.aload_n 0, 1) := by decide +kernel
theorem dX6_add_25 : decode cX6_add 25 = .ok (.getfield 95, 3) := by decide +kernel
theorem dX6_add_28 : decode cX6_add 28 = .ok (.iconst 0, 1) := by decide +kernel
theorem dX6_add_29 : decode cX6_add 29 = .ok (.bastore, 1) := by decide +kernel
theorem dX6_add_30 : decode cX6_add 30 = .ok (.aload_n 0, 1) := by decide +kernel
theorem dX6_add_31 : decode cX6_add 31 = .ok (.dup, 1) := by decide +kernel
theorem dX6_add_32 : decode cX6_add 32 = .ok (.getfield 95, 3) := by decide +kernel
theorem dX6_add_35 : decode cX6_add 35 = .ok (.iconst 1, 1) := by decide +kernel
theorem dX6_add_36 : decode cX6_add 36 = .ok (.iadd, 1) := by decide +kernel
theorem dX6_add_37 : decode cX6_add 37 = .ok (.putfield 95, 3) := by decide +kernel
theorem dX6_add_40 : decode cX6_add 40 = .ok (.return_, 1) := by decide +kernel
theorem dX6_card_0 : decode cX6_card 0 = .ok (.aload_n 0, 1) := by decide +kernel
theorem dX6_card_1 : decode cX6_card 1 = .ok (.iconst 0, 1) := by decide +kernel
theorem dX6_card_2 : decode cX6_card 2 = .ok (.putfield 78, 3) := by decide +kernel
theorem dX6_card_5 : decode cX6_card 5 = .ok (.aload_n 0, 1) := by decide +kernel
theorem dX6_card_6 : decode cX6_card 6 = .ok (.iload_n 1, 1) := by decide +kernel
theorem dX6_card_7 : decode cX6_card 7 = .ok (.invokevirtual 87, 3) := by decide +kernel
theorem dX6_card_10 : decode cX6_card 10 = .ok (.istore_n 3, 1) := by decide +kernel
theorem dX6_card_11 : decode cX6_card 11 = .ok (.iload_n 3, 1) := by decide +kernel
theorem dX6_card_12 : decode cX6_card 12 = .ok (.ifCond .eq 12, 3) := by decide +kernel
theorem dX6_card_15 : decode cX6_card 15 = .ok (.aload_n 0, 1) := by decide +kernel
theorem dX6_card_16 : decode cX6_card 16 = .ok (.iload_n 3, 1) := by decide +kernel
theorem dX6_card_17 : decode cX6_card 17 = .ok (.invokevirtual 98, 3) := by decide +kernel
theorem dX6_card_20 : decode cX6_card 20 = .ok (.iconst 5, 1) := by decide +kernel
theorem dX6_card_21 : decode cX6_card 21 = .ok (.if_icmp .lt 5, 3) := by decide +kernel
theorem dX6_card_24 : decode cX6_card 24 = .ok (.iconst 0, 1) := by decide +kernel
theorem dX6_card_25 : decode cX6_card 25 = .ok (.ireturn, 1) := by decide +kernel
theorem dX6_card_26 : decode cX6_card 26 = .ok (.aload_n 0, 1) := by decide +kernel
theorem dX6_card_27 : decode cX6_card 27 = .ok (.iload_n 2, 1) := by decide +kernel
theorem dX6_card_28 : decode cX6_card 28 = .ok (.invokevirtual 101, 3) := by decide +kernel
theorem dX6_card_31 : decode cX6_card 31 = .ok (.iconst (-1), 1) := by decide +kernel
theorem dX6_card_32 : decode cX6_card 32 = .ok (.if_icmp .eq 5, 3) := by decide +kernel
theorem dX6_card_35 : decode cX6_card 35 = .ok (.iconst (-1), 1) := by decide +kernel
theorem dX6_card_36 : decode cX6_card 36 = .ok (.ireturn, 1) := by decide +kernel
theorem dX6_card_37 : decode cX6_card 37 = .ok (.aload_n 0, 1) := by decide +kernel
theorem dX6_card_38 : decode cX6_card 38 = .ok (.iload_n 2, 1) := by decide +kernel
theorem dX6_card_39 : decode cX6_card 39 = .ok (.iload_n 3, 1) := by decide +kernel
theorem dX6_card_40 : decode cX6_card 40 = .ok (.invokevirtual 104, 3) := by decide +kernel
theorem dX6_card_43 : decode cX6_card 43 = .ok (.aload_n 0, 1) := by decide +kernel
theorem dX6_card_44 : decode cX6_card 44 = .ok (.iload_n 3, 1) := by decide +kernel
theorem dX6_card_45 : decode cX6_card 45 = .ok (.invokevirtual 98, 3) := by decide +kernel
theorem dX6_card_48 : decode cX6_card 48 = .ok (.ireturn, 1) := by decide +kernel
theorem dX6_whose_0 : decode cX6_whose 0 = .ok (.aload_n 0, 1) := by decide +kernel
theorem dX6_whose_1 : decode cX6_whose 1 = .ok (.iconst 0, 1) := by decide +kernel
theorem dX6_whose_2 : decode cX6_whose 2 = .ok (.putfield 78, 3) := by decide +kernel
theorem dX6_whose_5 : decode cX6_whose 5 = .ok (.aload_n 0, 1) := by decide +kernel
theorem dX6_whose_6 : decode cX6_whose 6 = .ok (.iload_n 1, 1) := by decide +kernel
theorem dX6_whose_7 : decode cX6_whose 7 = .ok (.invokevirtual 101, 3) := by decide +kernel
theorem dX6_whose_10 : decode cX6_whose 10 = .ok (.istore_n 2, 1) := by decide +kernel
theorem dX6_whose_11 : decode cX6_whose 11 = .ok (.iload_n 2, 1) := by decide +kernel
theorem dX6_whose_12 : decode cX6_whose 12 = .ok (.iconst (-1), 1) := by decide +kernel
theorem dX6_whose_13 : decode cX6_whose 13 = .ok (.if_icmp .eq 12, 3) := by decide +kernel
theorem dX6_whose_16 : decode cX6_whose 16 = .ok (.aload_n 0, 1) := by decide +kernel
theorem dX6_whose_17 : decode cX6_whose 17 = .ok (.getfield 43, 3) := by decide +kernel
theorem dX6_whose_20 : decode cX6_whose 20 = .ok (.iload_n 2, 1) := by decide +kernel
theorem dX6_whose_21 : decode cX6_whose 21 = .ok (.baload, 1) := by decide +kernel
theorem dX6_whose_22 : decode cX6_whose 22 = .ok (.ifCond .eq 7, 3) := by decide +kernel
theorem dX6_whose_25 : decode cX6_whose 25 = .ok (.iconst 0, 1) := by decide +kernel
theorem dX6_whose_26 : decode cX6_whose 26 = .ok (.goto 9, 3) := by decide +kernel
theorem dX6_whose_29 : decode cX6_whose 29 = .ok (.aload_n 0, 1) := by decide +kernel
theorem dX6_whose_30 : decode cX6_whose 30 = .ok (.getfield 40, 3) := by decide +kernel
theorem dX6_whose_33 : decode cX6_whose 33 = .ok (.iload_n 2, 1) := by decide +kernel
theorem dX6_whose_34 : decode cX6_whose 34 = .ok (.iaload, 1) := by decide +kernel
theorem dX6_whose_35 : decode cX6_whose 35 = .ok (.ireturn, 1) := by decide +kernel
theorem dX6_lost_0 : decode cX6_lost 0 = .ok (.aload_n 0, 1) := by decide +kernel
theorem dX6_lost_1 : decode cX6_lost 1 = .ok (.iconst 0, 1) := by decide +kernel
theorem dX6_lost_2 : decode cX6_lost 2 = .ok (.putfield 78, 3) := by decide +kernel
theorem dX6_lost_5 : decode cX6_lost 5 = .ok (.aload_n 0, 1) := by decide +kernel
theorem dX6_lost_6 : decode cX6_lost 6 = .ok (.iload_n 1, 1) := by decide +kernel
theorem dX6_lost_7 : decode cX6_lost 7 = .ok (.invokevirtual 101, 3) := by decide +kernel
theorem dX6_lost_10 : decode cX6_lost 10 = .ok (.istore_n 3, 1) := by decide +kernel
theorem dX6_lost_11 : decode cX6_lost 11 = .ok (.iload_n 3, 1) := by decide +kernel
theorem dX6_lost_12 : decode cX6_lost 12 = .ok (.iconst (-1), 1) := by decide +kernel
theorem dX6_lost_13 : decode cX6_lost 13 = .ok (.if_icmp .eq 12, 3) := by decide +kernel
theorem dX6_lost_16 : decode cX6_lost 16 = .ok (.aload_n 0, 1) := by decide +kernel
theorem dX6_lost_17 : decode cX6_lost 17 = .ok (.getfield 43, 3) := by decide +kernel
theorem dX6_lost_20 : decode cX6_lost 20 = .ok (.iload_n 3, 1) := by decide +kernel
theorem dX6_lost_21 : decode cX6_lost 21 = .ok (.baload, 1) := by decide +kernel
theorem dX6_lost_22 : decode cX6_lost 22 = .ok (.ifCond .eq 5, 3) := by decide +kernel
theorem dX6_lost_25 : decode cX6_lost 25 = .ok (.iconst 0, 1) := by decide +kernel
theorem dX6_lost_26 : decode cX6_lost 26 = .ok (.ireturn, 1) := by decide +kernel
theorem dX6_lost_27 : decode cX6_lost 27 = .ok (.aload_n 0, 1) := by decide +kernel
theorem dX6_lost_28 : decode cX6_lost 28 = .ok (.iload_n 2, 1) := by decide +kernel
theorem dX6_lost_29 : decode cX6_lost 29 = .ok (.invokevirtual 101, 3) := by decide +kernel
theorem dX6_lost_32 : decode cX6_lost 32 = .ok (.iconst (-1), 1) := by decide +kernel
theorem dX6_lost_33 : decode cX6_lost 33 = .ok (.if_icmp .eq 5, 3) := by decide +kernel
theorem dX6_lost_36 : decode cX6_lost 36 = .ok (.iconst (-1), 1) := by decide +kernel
theorem dX6_lost_37 : decode cX6_lost 37 = .ok (.ireturn, 1) := by decide +kernel
theorem dX6_lost_38 : decode cX6_lost 38 = .ok (.aload_n 0, 1) := by decide +kernel
theorem dX6_lost_39 : decode cX6_lost 39 = .ok (.aload_n 0, 1) := by decide +kernel
theorem dX6_lost_40 : decode cX6_lost 40 = .ok (.getfield 40, 3) := by decide +kernel
theorem dX6_lost_43 : decode cX6_lost 43 = .ok (.iload_n 3, 1) := by decide +kernel
theorem dX6_lost_44 : decode cX6_lost 44 = .ok (.iaload, 1) := by decide +kernel
theorem dX6_lost_45 : decode cX6_lost 45 = .ok (.invokevirtual 98, 3) := by decide +kernel
theorem dX6_lost_48 : decode cX6_lost 48 = .ok (.iconst 5, 1) := by decide +kernel
theorem dX6_lost_49 : decode cX6_lost 49 = .ok (.if_icmp .lt 6, 3) := by decide +kernel
theorem dX6_lost_52 : decode cX6_lost 52 = .ok (.bipush (-2), 2) := by decide +kernel
theorem dX6_lost_54 : decode cX6_lost 54 = .ok (.ireturn, 1) := by decide +kernel
theorem dX6_lost_55 : decode cX6_lost 55 = .ok (.aload_n 0, 1) := by decide +kernel
theorem dX6_lost_56 : decode cX6_lost 56 = .ok (.getfield 43, 3) := by decide +kernel
theorem dX6_lost_59 : decode cX6_lost 59 = .ok (.iload_n 3, 1) := by decide +kernel
theorem dX6_lost_60 : decode cX6_lost 60 = .ok (.iconst 1, 1) := by decide +kernel
theorem dX6_lost_61 : decode cX6_lost 61 = .ok (.bastore, 1) := by decide +kernel
theorem dX6_lost_62 : decode cX6_lost 62 = .ok (.aload_n 0, 1) := by decide +kernel
theorem dX6_lost_63 : decode cX6_lost 63 = .ok (.iload_n 2, 1) := by decide +kernel
theorem dX6_lost_64 : decode cX6_lost 64 = .ok (.aload_n 0, 1) := by decide +kernel
theorem dX6_lost_65 : decode cX6_lost 65 = .ok (.getfield 40, 3) := by decide +kernel
theorem dX6_lost_68 : decode cX6_lost 68 = .ok (.iload_n 3, 1) := by decide +kernel
theorem dX6_lost_69 : decode cX6_lost 69 = .ok (.iaload, 1) := by decide +kernel
theorem dX6_lost_70 : decode cX6_lost 70 = .ok (.invokevirtual 104, 3) := by decide +kernel
theorem dX6_lost_73 : decode cX6_lost 73 = .ok (.aload_n 0, 1) := by decide +kernel
theorem dX6_lost_74 : decode cX6_lost 74 = .ok (.getfield 40, 3) := by decide +kernel
theorem dX6_lost_77 : decode cX6_lost 77 = .ok (.iload_n 3, 1) := by decide +kernel
theorem dX6_lost_78 : decode cX6_lost 78 = .ok (.iaload, 1) := by decide +kernel
theorem dX6_lost_79 : decode cX6_lost 79 = .ok (.ireturn, 1) := by decide +kernel
theorem dX6_block_0 : decode cX6_block 0 = .ok (.aload_n 0, 1) := by decide +kernel
theorem dX6_block_1 : decode cX6_block 1 = .ok (.iconst 0, 1) := by decide +kernel
theorem dX6_block_2 : decode cX6_block 2 = .ok (.putfield 78, 3) := by decide +kernel
theorem dX6_block_5 : decode cX6_block 5 = .ok (.aload_n 0, 1) := by decide +kernel
theorem dX6_block_6 : decode cX6_block 6 = .ok (.iload_n 1, 1) := by decide +kernel
theorem dX6_block_7 : decode cX6_block 7 = .ok (.invokevirtual 87, 3) := by decide +kernel
theorem dX6_block_10 : decode cX6_block 10 = .ok (.istore 5, 2) := by decide +kernel
theorem dX6_block_12 : decode cX6_block 12 = .ok (.iload 5, 2) := by decide +kernel
theorem dX6_block_14 : decode cX6_block 14 = .ok (.ifCond .eq 19, 3) := by decide +kernel
theorem dX6_block_17 : decode cX6_block 17 = .ok (.iload_n 2, 1) := by decide +kernel
theorem dX6_block_18 : decode cX6_block 18 = .ok (.ifCond .lt 15, 3) := by decide +kernel
theorem dX6_block_21 : decode cX6_block 21 = .ok (.iload_n 2, 1) := by decide +kernel
theorem dX6_block_22 : decode cX6_block 22 = .ok (.iconst 5, 1) := by decide +kernel
theorem dX6_block_23 : decode cX6_block 23 = .ok (.if_icmp .gt 10, 3) := by decide +kernel
theorem dX6_block_26 : decode cX6_block 26 = .ok (.lload_n 3, 1) := by decide +kernel
theorem dX6_block_27 : decode cX6_block 27 = .ok (.invokestatic 108, 3) := by decide +kernel
theorem dX6_block_30 : decode cX6_block 30 = .ok (.ifCond .ne 5, 3) := by decide +kernel
theorem dX6_block_33 : decode cX6_block 33 = .ok (.iconst 0, 1) := by decide +kernel
theorem dX6_block_34 : decode cX6_block 34 = .ok (.ireturn, 1) := by decide +kernel
theorem dX6_block_35 : decode cX6_block 35 = .ok (.aload_n 0, 1) := by decide +kernel
theorem dX6_block_36 : decode cX6_block 36 = .ok (.getfield 23, 3) := by decide +kernel
theorem dX6_block_39 : decode cX6_block 39 = .ok (.bipush 6, 2) := by decide +kernel
theorem dX6_block_41 : decode cX6_block 41 = .ok (.iload 5, 2) := by decide +kernel
theorem dX6_block_43 : decode cX6_block 43 = .ok (.imul, 1) := by decide +kernel
theorem dX6_block_44 : decode cX6_block 44 = .ok (.iload_n 2, 1) := by decide +kernel
theorem dX6_block_45 : decode cX6_block 45 = .ok (.iadd, 1) := by decide +kernel
theorem dX6_block_46 : decode cX6_block 46 = .ok (.lload_n 3, 1) := by decide +kernel
theorem dX6_block_47 : decode cX6_block 47 = .ok (.lastore, 1) := by decide +kernel
theorem dX6_block_48 : decode cX6_block 48 = .ok (.iconst 1, 1) := by decide +kernel
theorem dX6_block_49 : decode cX6_block 49 = .ok (.ireturn, 1) := by decide +kernel
theorem dX6_blocked_0 : decode cX6_blocked 0 = .ok (.aload_n 0, 1) := by decide +kernel
theorem dX6_blocked_1 : decode cX6_blocked 1 = .ok (.iconst 0, 1) := by decide +kernel
theorem dX6_blocked_2 : decode cX6_blocked 2 = .ok (.putfield 78, 3) := by decide +kernel
theorem dX6_blocked_5 : decode cX6_blocked 5 = .ok (.aload_n 0, 1) := by decide +kernel
theorem dX6_blocked_6 : decode cX6_blocked 6 = .ok (.iload_n 1, 1) := by decide +kernel
theorem dX6_blocked_7 : decode cX6_blocked 7 = .ok (.invokevirtual 87, 3) := by decide +kernel
theorem dX6_blocked_10 : decode cX6_blocked 10 = .ok (.istore 4, 2) := by decide +kernel
theorem dX6_blocked_12 : decode cX6_blocked 12 = .ok (.iconst 0, 1) := by decide +kernel
theorem dX6_blocked_13 : decode cX6_blocked 13 = .ok (.istore 5, 2) := by decide +kernel
theorem dX6_blocked_15 : decode cX6_blocked 15 = .ok (.iload 5, 2) := by decide +kernel
theorem dX6_blocked_17 : decode cX6_blocked 17 = .ok (.bipush 6, 2) := by decide +kernel
theorem dX6_blocked_19 : decode cX6_blocked 19 = .ok (.if_icmp .ge 56, 3) := by decide +kernel
theorem dX6_blocked_22 : decode cX6_blocked 22 = .ok (.iload 4, 2) := by decide +kernel
theorem dX6_blocked_24 : decode cX6_blocked 24 = .ok (.ifCond .le 51, 3) := by decide +kernel
theorem dX6_blocked_27 : decode cX6_blocked 27 = .ok (.aload_n 0, 1) := by decide +kernel
theorem dX6_blocked_28 : decode cX6_blocked 28 = .ok (.iload 4, 2) := by decide +kernel
theorem dX6_blocked_30 : decode cX6_blocked 30 = .ok (.iload 5, 2) := by decide +kernel
theorem dX6_blocked_32 : decode cX6_blocked 32 = .ok (.lload_n 2, 1) := by decide +kernel
theorem dX6_blocked_33 : decode cX6_blocked 33 = .ok (.invokevirtual 112, 3) := by decide +kernel
theorem dX6_blocked_36 : decode cX6_blocked 36 = .ok (.ifCond .ne 30, 3) := by decide +kernel
theorem dX6_blocked_39 : decode cX6_blocked 39 = .ok (.aload_n 0, 1) := by decide +kernel
theorem dX6_blocked_40 : decode cX6_blocked 40 = .ok (.getfield 16, 3) := by decide +kernel
theorem dX6_blocked_43 : decode cX6_blocked 43 = .ok (.iload 4, 2) := by decide +kernel
theorem dX6_blocked_45 : decode cX6_blocked 45 = .ok (.iaload, 1) := by decide +kernel
theorem dX6_blocked_46 : decode cX6_blocked 46 = .ok (.ifCond .le 23, 3) := by decide +kernel
theorem dX6_blocked_49 : decode cX6_blocked 49 = .ok (.aload_n 0, 1) := by decide +kernel
theorem dX6_blocked_50 : decode cX6_blocked 50 = .ok (.aload_n 0, 1) := by decide +kernel
theorem dX6_blocked_51 : decode cX6_blocked 51 = .ok (.getfield 16, 3) := by decide +kernel
theorem dX6_blocked_54 : decode cX6_blocked 54 = .ok (.iload 4, 2) := by decide +kernel
theorem dX6_blocked_56 : decode cX6_blocked 56 = .ok (.iaload, 1) := by decide +kernel
theorem dX6_blocked_57 : decode cX6_blocked 57 = .ok (.iload 5, 2) := by decide +kernel
theorem dX6_blocked_59 : decode cX6_blocked 59 = .ok (.lload_n 2, 1) := by decide +kernel
theorem dX6_blocked_60 : decode cX6_blocked 60 = .ok (.invokevirtual 112, 3) := by decide +kernel
theorem dX6_blocked_63 : decode cX6_blocked 63 = .ok (.ifCond .eq 6, 3) := by decide +kernel
theorem dX6_blocked_66 : decode cX6_blocked 66 = .ok (.iload 5, 2) := by decide +kernel
theorem dX6_blocked_68 : decode cX6_blocked 68 = .ok (.ireturn, 1) := by decide +kernel
theorem dX6_blocked_69 : decode cX6_blocked 69 = .ok (.iinc 5 1, 3) := by decide +kernel
theorem dX6_blocked_72 : decode cX6_blocked 72 = .ok (.goto (-57), 3) := by decide +kernel
theorem dX6_blocked_75 : decode cX6_blocked 75 = .ok (.iconst (-1), 1) := by decide +kernel
theorem dX6_blocked_76 : decode cX6_blocked 76 = .ok (.ireturn, 1) := by decide +kernel
theorem dX6_lasts_0 : decode cX6_lasts 0 = .ok (.aload_n 0, 1) := by decide +kernel
theorem dX6_lasts_1 : decode cX6_lasts 1 = .ok (.getfield 23, 3) := by decide +kernel
theorem dX6_lasts_4 : decode cX6_lasts 4 = .ok (.bipush 6, 2) := by decide +kernel
theorem dX6_lasts_6 : decode cX6_lasts 6 = .ok (.iload_n 1, 1) := by decide +kernel
theorem dX6_lasts_7 : decode cX6_lasts 7 = .ok (.imul, 1) := by decide +kernel
theorem dX6_lasts_8 : decode cX6_lasts 8 = .ok (.iload_n 2, 1) := by decide +kernel
theorem dX6_lasts_9 : decode cX6_lasts 9 = .ok (.iadd, 1) := by decide +kernel
theorem dX6_lasts_10 : decode cX6_lasts 10 = .ok (.laload, 1) := by decide +kernel
theorem dX6_lasts_11 : decode cX6_lasts 11 = .ok (.lconst 0, 1) := by decide +kernel
theorem dX6_lasts_12 : decode cX6_lasts 12 = .ok (.lcmp, 1) := by decide +kernel
theorem dX6_lasts_13 : decode cX6_lasts 13 = .ok (.ifCond .lt 23, 3) := by decide +kernel
theorem dX6_lasts_16 : decode cX6_lasts 16 = .ok (.aload_n 0, 1) := by decide +kernel
theorem dX6_lasts_17 : decode cX6_lasts 17 = .ok (.getfield 23, 3) := by decide +kernel
theorem dX6_lasts_20 : decode cX6_lasts 20 = .ok (.bipush 6, 2) := by decide +kernel
theorem dX6_lasts_22 : decode cX6_lasts 22 = .ok (.iload_n 1, 1) := by decide +kernel
theorem dX6_lasts_23 : decode cX6_lasts 23 = .ok (.imul, 1) := by decide +kernel
theorem dX6_lasts_24 : decode cX6_lasts 24 = .ok (.iload_n 2, 1) := by decide +kernel
theorem dX6_lasts_25 : decode cX6_lasts 25 = .ok (.iadd, 1) := by decide +kernel
theorem dX6_lasts_26 : decode cX6_lasts 26 = .ok (.laload, 1) := by decide +kernel
theorem dX6_lasts_27 : decode cX6_lasts 27 = .ok (.lload_n 3, 1) := by decide +kernel
theorem dX6_lasts_28 : decode cX6_lasts 28 = .ok (.lcmp, 1) := by decide +kernel
theorem dX6_lasts_29 : decode cX6_lasts 29 = .ok (.ifCond .lt 7, 3) := by decide +kernel
theorem dX6_lasts_32 : decode cX6_lasts 32 = .ok (.iconst 1, 1) := by decide +kernel
theorem dX6_lasts_33 : decode cX6_lasts 33 = .ok (.goto 4, 3) := by decide +kernel
theorem dX6_lasts_36 : decode cX6_lasts 36 = .ok (.iconst 0, 1) := by decide +kernel
theorem dX6_lasts_37 : decode cX6_lasts 37 = .ok (.ireturn, 1) := by decide +kernel
theorem dX6_isKept_0 : decode cX6_isKept 0 = .ok (.aload_n 0, 1) := by decide +kernel
theorem dX6_isKept_1 : decode cX6_isKept 1 = .ok (.aload_n 0, 1) := by decide +kernel
theorem dX6_isKept_2 : decode cX6_isKept 2 = .ok (.getfield 46, 3) := by decide +kernel
theorem dX6_isKept_5 : decode cX6_isKept 5 = .ok (.iload_n 1, 1) := by decide +kernel
theorem dX6_isKept_6 : decode cX6_isKept 6 = .ok (.iaload, 1) := by decide +kernel
theorem dX6_isKept_7 : decode cX6_isKept 7 = .ok (.invokevirtual 87, 3) := by decide +kernel
theorem dX6_isKept_10 : decode cX6_isKept 10 = .ok (.istore 4, 2) := by decide +kernel
theorem dX6_isKept_12 : decode cX6_isKept 12 = .ok (.aload_n 0, 1) := by decide +kernel
theorem dX6_isKept_13 : decode cX6_isKept 13 = .ok (.getfield 19, 3) := by decide +kernel
theorem dX6_isKept_16 : decode cX6_isKept 16 = .ok (.iload 4, 2) := by decide +kernel
theorem dX6_isKept_18 : decode cX6_isKept 18 = .ok (.baload, 1) := by decide +kernel
theorem dX6_isKept_19 : decode cX6_isKept 19 = .ok (.ifCond .ne 28, 3) := by decide +kernel
theorem dX6_isKept_22 : decode cX6_isKept 22 = .ok (.lload_n 2, 1) := by decide +kernel
theorem dX6_isKept_23 : decode cX6_isKept 23 = .ok (.aload_n 0, 1) := by decide +kernel
theorem dX6_isKept_24 : decode cX6_isKept 24 = .ok (.getfield 58, 3) := by decide +kernel
theorem dX6_isKept_27 : decode cX6_isKept 27 = .ok (.iload_n 1, 1) := by decide +kernel
theorem dX6_isKept_28 : decode cX6_isKept 28 = .ok (.laload, 1) := by decide +kernel
theorem dX6_isKept_29 : decode cX6_isKept 29 = .ok (.aload_n 0, 1) := by decide +kernel
theorem dX6_isKept_30 : decode cX6_isKept 30 = .ok (.getfield 64, 3) := by decide +kernel
theorem dX6_isKept_33 : decode cX6_isKept 33 = .ok (.aload_n 0, 1) := by decide +kernel
theorem dX6_isKept_34 : decode cX6_isKept 34 = .ok (.getfield 13, 3) := by decide +kernel
theorem dX6_isKept_37 : decode cX6_isKept 37 = .ok (.iload 4, 2) := by decide +kernel
theorem dX6_isKept_39 : decode cX6_isKept 39 = .ok (.iaload, 1) := by decide +kernel
theorem dX6_isKept_40 : decode cX6_isKept 40 = .ok (.iaload, 1) := by decide +kernel
theorem dX6_isKept_41 : decode cX6_isKept 41 = .ok (.i2l, 1) := by decide +kernel
theorem dX6_isKept_42 : decode cX6_isKept 42 = .ok (.ladd, 1) := by decide +kernel
theorem dX6_isKept_43 : decode cX6_isKept 43 = .ok (.lcmp, 1) := by decide +kernel
theorem dX6_isKept_44 : decode cX6_isKept 44 = .ok (.ifCond .gt 7, 3) := by decide +kernel
theorem dX6_isKept_47 : decode cX6_isKept 47 = .ok (.iconst 1, 1) := by decide +kernel
theorem dX6_isKept_48 : decode cX6_isKept 48 = .ok (.goto 4, 3) := by decide +kernel
theorem dX6_isKept_51 : decode cX6_isKept 51 = .ok (.iconst 0, 1) := by decide +kernel
theorem dX6_isKept_52 : decode cX6_isKept 52 = .ok (.ireturn, 1) := by decide +kernel
theorem dX6_forget_0 : decode cX6_forget 0 = .ok (.iconst 0, 1) := by decide +kernel
theorem dX6_forget_1 : decode cX6_forget 1 = .ok (.istore 4, 2) := by decide +kernel
theorem dX6_forget_3 : decode cX6_forget 3 = .ok (.iconst 1, 1) := by decide +kernel
theorem dX6_forget_4 : decode cX6_forget 4 = .ok (.istore 5, 2) := by decide +kernel
theorem dX6_forget_6 : decode cX6_forget 6 = .ok (.iload 5, 2) := by decide +kernel
theorem dX6_forget_8 : decode cX6_forget 8 = .ok (.aload_n 0, 1) := by decide +kernel
theorem dX6_forget_9 : decode cX6_forget 9 = .ok (.getfield 116, 3) := by decide +kernel
theorem dX6_forget_12 : decode cX6_forget 12 = .ok (.if_icmp .gt 59, 3) := by decide +kernel
theorem dX6_forget_15 : decode cX6_forget 15 = .ok (.aload_n 0, 1) := by decide +kernel
theorem dX6_forget_16 : decode cX6_forget 16 = .ok (.getfield 61, 3) := by decide +kernel
theorem dX6_forget_19 : decode cX6_forget 19 = .ok (.iload 5, 2) := by decide +kernel
theorem dX6_forget_21 : decode cX6_forget 21 = .ok (.baload, 1) := by decide +kernel
theorem dX6_forget_22 : decode cX6_forget 22 = .ok (.ifCond .ne 43, 3) := by decide +kernel
theorem dX6_forget_25 : decode cX6_forget 25 = .ok (.iload_n 1, 1) := by decide +kernel
theorem dX6_forget_26 : decode cX6_forget 26 = .ok (.ifCond .eq 18, 3) := by decide +kernel
theorem dX6_forget_29 : decode cX6_forget 29 = .ok (.aload_n 0, 1) := by decide +kernel
theorem dX6_forget_30 : decode cX6_forget 30 = .ok (.aload_n 0, 1) := by decide +kernel
theorem dX6_forget_31 : decode cX6_forget 31 = .ok (.getfield 46, 3) := by decide +kernel
theorem dX6_forget_34 : decode cX6_forget 34 = .ok (.iload 5, 2) := by decide +kernel
theorem dX6_forget_36 : decode cX6_forget 36 = .ok (.iaload, 1) := by decide +kernel
theorem dX6_forget_37 : decode cX6_forget 37 = .ok (.invokevirtual 87, 3) := by decide +kernel
theorem dX6_forget_40 : decode cX6_forget 40 = .ok (.iload_n 1, 1) := by decide +kernel
theorem dX6_forget_41 : decode cX6_forget 41 = .ok (.if_icmp .ne 24, 3) := by decide +kernel
theorem dX6_forget_44 : decode cX6_forget 44 = .ok (.aload_n 0, 1) := by decide +kernel
theorem dX6_forget_45 : decode cX6_forget 45 = .ok (.iload 5, 2) := by decide +kernel
theorem dX6_forget_47 : decode cX6_forget 47 = .ok (.lload_n 2, 1) := by decide +kernel
theorem dX6_forget_48 : decode cX6_forget 48 = .ok (.invokevirtual 119, 3) := by decide +kernel
theorem dX6_forget_51 : decode cX6_forget 51 = .ok (.ifCond .ne 14, 3) := by decide +kernel
theorem dX6_forget_54 : decode cX6_forget 54 = .ok (.aload_n 0, 1) := by decide +kernel
theorem dX6_forget_55 : decode cX6_forget 55 = .ok (.getfield 61, 3) := by decide +kernel
theorem dX6_forget_58 : decode cX6_forget 58 = .ok (.iload 5, 2) := by decide +kernel
theorem dX6_forget_60 : decode cX6_forget 60 = .ok (.iconst 1, 1) := by decide +kernel
theorem dX6_forget_61 : decode cX6_forget 61 = .ok (.bastore, 1) := by decide +kernel
theorem dX6_forget_62 : decode cX6_forget 62 = .ok (.iinc 4 1, 3) := by decide +kernel
theorem dX6_forget_65 : decode cX6_forget 65 = .ok (.iinc 5 1, 3) := by decide +kernel
theorem dX6_forget_68 : decode cX6_forget 68 = .ok (.goto (-62), 3) := by decide +kernel
theorem dX6_forget_71 : decode cX6_forget 71 = .ok (.iload 4, 2) := by decide +kernel
theorem dX6_forget_73 : decode cX6_forget 73 = .ok (.ireturn, 1) := by decide +kernel
theorem dX6_consent_0 : decode cX6_consent 0 = .ok (.aload_n 0, 1) := by decide +kernel
theorem dX6_consent_1 : decode cX6_consent 1 = .ok (.iconst 0, 1) := by decide +kernel
theorem dX6_consent_2 : decode cX6_consent 2 = .ok (.putfield 78, 3) := by decide +kernel
theorem dX6_consent_5 : decode cX6_consent 5 = .ok (.aload_n 0, 1) := by decide +kernel
theorem dX6_consent_6 : decode cX6_consent 6 = .ok (.iload_n 1, 1) := by decide +kernel
theorem dX6_consent_7 : decode cX6_consent 7 = .ok (.invokevirtual 87, 3) := by decide +kernel
theorem dX6_consent_10 : decode cX6_consent 10 = .ok (.istore 5, 2) := by decide +kernel
theorem dX6_consent_12 : decode cX6_consent 12 = .ok (.iload 5, 2) := by decide +kernel
theorem dX6_consent_14 : decode cX6_consent 14 = .ok (.ifCond .eq 10, 3) := by decide +kernel
theorem dX6_consent_17 : decode cX6_consent 17 = .ok (.lload_n 3, 1) := by decide +kernel
theorem dX6_consent_18 : decode cX6_consent 18 = .ok (.invokestatic 108, 3) := by decide +kernel
theorem dX6_consent_21 : decode cX6_consent 21 = .ok (.ifCond .ne 5, 3) := by decide +kernel
theorem dX6_consent_24 : decode cX6_consent 24 = .ok (.iconst (-1), 1) := by decide +kernel
theorem dX6_consent_25 : decode cX6_consent 25 = .ok (.ireturn, 1) := by decide +kernel
theorem dX6_consent_26 : decode cX6_consent 26 = .ok (.aload_n 0, 1) := by decide +kernel
theorem dX6_consent_27 : decode cX6_consent 27 = .ok (.getfield 19, 3) := by decide +kernel
theorem dX6_consent_30 : decode cX6_consent 30 = .ok (.iload 5, 2) := by decide +kernel
theorem dX6_consent_32 : decode cX6_consent 32 = .ok (.baload, 1) := by decide +kernel
theorem dX6_consent_33 : decode cX6_consent 33 = .ok (.istore 6, 2) := by decide +kernel
theorem dX6_consent_35 : decode cX6_consent 35 = .ok (.aload_n 0, 1) := by decide +kernel
theorem dX6_consent_36 : decode cX6_consent 36 = .ok (.getfield 19, 3) := by decide +kernel
theorem dX6_consent_39 : decode cX6_consent 39 = .ok (.iload 5, 2) := by decide +kernel
theorem dX6_consent_41 : decode cX6_consent 41 = .ok (.iload_n 2, 1) := by decide +kernel
theorem dX6_consent_42 : decode cX6_consent 42 = .ok (.bastore, 1) := by decide +kernel
theorem dX6_consent_43 : decode cX6_consent 43 = .ok (.iload_n 2, 1) := by decide +kernel
theorem dX6_consent_44 : decode cX6_consent 44 = .ok (.ifCond .ne 8, 3) := by decide +kernel
theorem dX6_consent_47 : decode cX6_consent 47 = .ok (.iload 6, 2) := by decide +kernel
theorem dX6_consent_49 : decode cX6_consent 49 = .ok (.ifCond .ne 7, 3) := by decide +kernel
theorem dX6_consent_52 : decode cX6_consent 52 = .ok (.iconst 0, 1) := by decide +kernel
theorem dX6_consent_53 : decode cX6_consent 53 = .ok (.goto 10, 3) := by decide +kernel
theorem dX6_consent_56 : decode cX6_consent 56 = .ok (.aload_n 0, 1) := by decide +kernel
theorem dX6_consent_57 : decode cX6_consent 57 = .ok (.iload 5, 2) := by decide +kernel
theorem dX6_consent_59 : decode cX6_consent 59 = .ok (.lload_n 3, 1) := by decide +kernel
theorem dX6_consent_60 : decode cX6_consent 60 = .ok (.invokevirtual 123, 3) := by decide +kernel
theorem dX6_consent_63 : decode cX6_consent 63 = .ok (.ireturn, 1) := by decide +kernel
theorem dX6_keeps_0 : decode cX6_keeps 0 = .ok (.aload_n 0, 1) := by decide +kernel
theorem dX6_keeps_1 : decode cX6_keeps 1 = .ok (.iconst 0, 1) := by decide +kernel
theorem dX6_keeps_2 : decode cX6_keeps 2 = .ok (.putfield 78, 3) := by decide +kernel
theorem dX6_keeps_5 : decode cX6_keeps 5 = .ok (.iload_n 1, 1) := by decide +kernel
theorem dX6_keeps_6 : decode cX6_keeps 6 = .ok (.invokestatic 91, 3) := by decide +kernel
theorem dX6_keeps_9 : decode cX6_keeps 9 = .ok (.ifCond .eq 13, 3) := by decide +kernel
theorem dX6_keeps_12 : decode cX6_keeps 12 = .ok (.iload_n 2, 1) := by decide +kernel
theorem dX6_keeps_13 : decode cX6_keeps 13 = .ok (.ifCond .lt 9, 3) := by decide +kernel
theorem dX6_keeps_16 : decode cX6_keeps 16 = .ok (.iload_n 2, 1) := by decide +kernel
theorem dX6_keeps_17 : decode cX6_keeps 17 = .ok (.ldc 127, 2) := by decide +kernel
theorem dX6_keeps_19 : decode cX6_keeps 19 = .ok (.if_icmp .le 5, 3) := by decide +kernel
theorem dX6_keeps_22 : decode cX6_keeps 22 = .ok (.iconst (-1), 1) := by decide +kernel
theorem dX6_keeps_23 : decode cX6_keeps 23 = .ok (.ireturn, 1) := by decide +kernel
theorem dX6_keeps_24 : decode cX6_keeps 24 = .ok (.aload_n 0, 1) := by decide +kernel
theorem dX6_keeps_25 : decode cX6_keeps 25 = .ok (.getfield 64, 3) := by decide +kernel
theorem dX6_keeps_28 : decode cX6_keeps 28 = .ok (.iload_n 1, 1) := by decide +kernel
theorem dX6_keeps_29 : decode cX6_keeps 29 = .ok (.iaload, 1) := by decide +kernel
theorem dX6_keeps_30 : decode cX6_keeps 30 = .ok (.istore_n 3, 1) := by decide +kernel
theorem dX6_keeps_31 : decode cX6_keeps 31 = .ok (.aload_n 0, 1) := by decide +kernel
theorem dX6_keeps_32 : decode cX6_keeps 32 = .ok (.getfield 64, 3) := by decide +kernel
theorem dX6_keeps_35 : decode cX6_keeps 35 = .ok (.iload_n 1, 1) := by decide +kernel
theorem dX6_keeps_36 : decode cX6_keeps 36 = .ok (.iload_n 2, 1) := by decide +kernel
theorem dX6_keeps_37 : decode cX6_keeps 37 = .ok (.iastore, 1) := by decide +kernel
theorem dX6_keeps_38 : decode cX6_keeps 38 = .ok (.iload_n 3, 1) := by decide +kernel
theorem dX6_keeps_39 : decode cX6_keeps 39 = .ok (.ireturn, 1) := by decide +kernel
theorem dX6_loan_0 : decode cX6_loan 0 = .ok (.aload_n 0, 1) := by decide +kernel
theorem dX6_loan_1 : decode cX6_loan 1 = .ok (.iconst 0, 1) := by decide +kernel
theorem dX6_loan_2 : decode cX6_loan 2 = .ok (.putfield 78, 3) := by decide +kernel
theorem dX6_loan_5 : decode cX6_loan 5 = .ok (.aload_n 0, 1) := by decide +kernel
theorem dX6_loan_6 : decode cX6_loan 6 = .ok (.iload_n 1, 1) := by decide +kernel
theorem dX6_loan_7 : decode cX6_loan 7 = .ok (.invokevirtual 87, 3) := by decide +kernel
theorem dX6_loan_10 : decode cX6_loan 10 = .ok (.istore 7, 2) := by decide +kernel
theorem dX6_loan_12 : decode cX6_loan 12 = .ok (.iload 7, 2) := by decide +kernel
theorem dX6_loan_14 : decode cX6_loan 14 = .ok (.ifCond .eq 35, 3) := by decide +kernel
theorem dX6_loan_17 : decode cX6_loan 17 = .ok (.lload_n 3, 1) := by decide +kernel
theorem dX6_loan_18 : decode cX6_loan 18 = .ok (.invokestatic 108, 3) := by decide +kernel
theorem dX6_loan_21 : decode cX6_loan 21 = .ok (.ifCond .eq 28, 3) := by decide +kernel
theorem dX6_loan_24 : decode cX6_loan 24 = .ok (.lload 5, 2) := by decide +kernel
theorem dX6_loan_26 : decode cX6_loan 26 = .ok (.invokestatic 108, 3) := by decide +kernel
theorem dX6_loan_29 : decode cX6_loan 29 = .ok (.ifCond .eq 20, 3) := by decide +kernel
theorem dX6_loan_32 : decode cX6_loan 32 = .ok (.lload_n 3, 1) := by decide +kernel
theorem dX6_loan_33 : decode cX6_loan 33 = .ok (.lload 5, 2) := by decide +kernel
theorem dX6_loan_35 : decode cX6_loan 35 = .ok (.lcmp, 1) := by decide +kernel
theorem dX6_loan_36 : decode cX6_loan 36 = .ok (.ifCond .gt 13, 3) := by decide +kernel
theorem dX6_loan_39 : decode cX6_loan 39 = .ok (.aload_n 0, 1) := by decide +kernel
theorem dX6_loan_40 : decode cX6_loan 40 = .ok (.getfield 116, 3) := by decide +kernel
theorem dX6_loan_43 : decode cX6_loan 43 = .ok (.sipush 200, 3) := by decide +kernel
theorem dX6_loan_46 : decode cX6_loan 46 = .ok (.if_icmp .ne 5, 3) := by decide +kernel
theorem dX6_loan_49 : decode cX6_loan 49 = .ok (.iconst 0, 1) := by decide +kernel
theorem dX6_loan_50 : decode cX6_loan 50 = .ok (.ireturn, 1) := by decide +kernel
theorem dX6_loan_51 : decode cX6_loan 51 = .ok (.aload_n 0, 1) := by decide +kernel
theorem dX6_loan_52 : decode cX6_loan 52 = .ok (.dup, 1) := by decide +kernel
theorem dX6_loan_53 : decode cX6_loan 53 = .ok (.getfield 116, 3) := by decide +kernel
theorem dX6_loan_56 : decode cX6_loan 56 = .ok (.iconst 1, 1) := by decide +kernel
theorem dX6_loan_57 : decode cX6_loan 57 = .ok (.iadd, 1) := by decide +kernel
theorem dX6_loan_58 : decode cX6_loan 58 = .ok (.putfield 116, 3) := by decide +kernel
theorem dX6_loan_61 : decode cX6_loan 61 = .ok (.aload_n 0, 1) := by decide +kernel
theorem dX6_loan_62 : decode cX6_loan 62 = .ok (.getfield 46, 3) := by decide +kernel
theorem dX6_loan_65 : decode cX6_loan 65 = .ok (.aload_n 0, 1) := by decide +kernel
theorem dX6_loan_66 : decode cX6_loan 66 = .ok (.getfield 116, 3) := by decide +kernel
theorem dX6_loan_69 : decode cX6_loan 69 = .ok (.iload 7, 2) := by decide +kernel
theorem dX6_loan_71 : decode cX6_loan 71 = .ok (.iastore, 1) := by decide +kernel
theorem dX6_loan_72 : decode cX6_loan 72 = .ok (.aload_n 0, 1) := by decide +kernel
theorem dX6_loan_73 : decode cX6_loan 73 = .ok (.getfield 49, 3) := by decide +kernel
theorem dX6_loan_76 : decode cX6_loan 76 = .ok (.aload_n 0, 1) := by decide +kernel
theorem dX6_loan_77 : decode cX6_loan 77 = .ok (.getfield 116, 3) := by decide +kernel
theorem dX6_loan_80 : decode cX6_loan 80 = .ok (.aload_n 0, 1) := by decide +kernel
theorem dX6_loan_81 : decode cX6_loan 81 = .ok (.getfield 13, 3) := by decide +kernel
theorem dX6_loan_84 : decode cX6_loan 84 = .ok (.iload 7, 2) := by decide +kernel
theorem dX6_loan_86 : decode cX6_loan 86 = .ok (.iaload, 1) := by decide +kernel
theorem dX6_loan_87 : decode cX6_loan 87 = .ok (.iastore, 1) := by decide +kernel
theorem dX6_loan_88 : decode cX6_loan 88 = .ok (.aload_n 0, 1) := by decide +kernel
theorem dX6_loan_89 : decode cX6_loan 89 = .ok (.getfield 52, 3) := by decide +kernel
theorem dX6_loan_92 : decode cX6_loan 92 = .ok (.aload_n 0, 1) := by decide +kernel
theorem dX6_loan_93 : decode cX6_loan 93 = .ok (.getfield 116, 3) := by decide +kernel
theorem dX6_loan_96 : decode cX6_loan 96 = .ok (.iload_n 2, 1) := by decide +kernel
theorem dX6_loan_97 : decode cX6_loan 97 = .ok (.iastore, 1) := by decide +kernel
theorem dX6_loan_98 : decode cX6_loan 98 = .ok (.aload_n 0, 1) := by decide +kernel
theorem dX6_loan_99 : decode cX6_loan 99 = .ok (.getfield 55, 3) := by decide +kernel
theorem dX6_loan_102 : decode cX6_loan 102 = .ok (.aload_n 0, 1) := by decide +kernel
theorem dX6_loan_103 : decode cX6_loan 103 = .ok (.getfield 116, 3) := by decide +kernel
theorem dX6_loan_106 : decode cX6_loan 106 = .ok (.lload_n 3, 1) := by decide +kernel
theorem dX6_loan_107 : decode cX6_loan 107 = .ok (.lastore, 1) := by decide +kernel
theorem dX6_loan_108 : decode cX6_loan 108 = .ok (.aload_n 0, 1) := by decide +kernel
theorem dX6_loan_109 : decode cX6_loan 109 = .ok (.getfield 58, 3) := by decide +kernel
theorem dX6_loan_112 : decode cX6_loan 112 = .ok (.aload_n 0, 1) := by decide +kernel
theorem dX6_loan_113 : decode cX6_loan 113 = .ok (.getfield 116, 3) := by decide +kernel
theorem dX6_loan_116 : decode cX6_loan 116 = .ok (.lload 5, 2) := by decide +kernel
theorem dX6_loan_118 : decode cX6_loan 118 = .ok (.lastore, 1) := by decide +kernel
theorem dX6_loan_119 : decode cX6_loan 119 = .ok (.aload_n 0, 1) := by decide +kernel
theorem dX6_loan_120 : decode cX6_loan 120 = .ok (.getfield 116, 3) := by decide +kernel
theorem dX6_loan_123 : decode cX6_loan 123 = .ok (.ireturn, 1) := by decide +kernel
theorem dX6_isFor_0 : decode cX6_isFor 0 = .ok (.aload_n 0, 1) := by decide +kernel
theorem dX6_isFor_1 : decode cX6_isFor 1 = .ok (.getfield 61, 3) := by decide +kernel
theorem dX6_isFor_4 : decode cX6_isFor 4 = .ok (.iload_n 1, 1) := by decide +kernel
theorem dX6_isFor_5 : decode cX6_isFor 5 = .ok (.baload, 1) := by decide +kernel
theorem dX6_isFor_6 : decode cX6_isFor 6 = .ok (.ifCond .ne 30, 3) := by decide +kernel
theorem dX6_isFor_9 : decode cX6_isFor 9 = .ok (.aload_n 0, 1) := by decide +kernel
theorem dX6_isFor_10 : decode cX6_isFor 10 = .ok (.aload_n 0, 1) := by decide +kernel
theorem dX6_isFor_11 : decode cX6_isFor 11 = .ok (.getfield 46, 3) := by decide +kernel
theorem dX6_isFor_14 : decode cX6_isFor 14 = .ok (.iload_n 1, 1) := by decide +kernel
theorem dX6_isFor_15 : decode cX6_isFor 15 = .ok (.iaload, 1) := by decide +kernel
theorem dX6_isFor_16 : decode cX6_isFor 16 = .ok (.invokevirtual 87, 3) := by decide +kernel
theorem dX6_isFor_19 : decode cX6_isFor 19 = .ok (.iload_n 2, 1) := by decide +kernel
theorem dX6_isFor_20 : decode cX6_isFor 20 = .ok (.if_icmp .ne 16, 3) := by decide +kernel
theorem dX6_isFor_23 : decode cX6_isFor 23 = .ok (.aload_n 0, 1) := by decide +kernel
theorem dX6_isFor_24 : decode cX6_isFor 24 = .ok (.iload_n 1, 1) := by decide +kernel
theorem dX6_isFor_25 : decode cX6_isFor 25 = .ok (.lload_n 3, 1) := by decide +kernel
theorem dX6_isFor_26 : decode cX6_isFor 26 = .ok (.invokevirtual 119, 3) := by decide +kernel
theorem dX6_isFor_29 : decode cX6_isFor 29 = .ok (.ifCond .eq 7, 3) := by decide +kernel
theorem dX6_isFor_32 : decode cX6_isFor 32 = .ok (.iconst 1, 1) := by decide +kernel
theorem dX6_isFor_33 : decode cX6_isFor 33 = .ok (.goto 4, 3) := by decide +kernel
theorem dX6_isFor_36 : decode cX6_isFor 36 = .ok (.iconst 0, 1) := by decide +kernel
theorem dX6_isFor_37 : decode cX6_isFor 37 = .ok (.ireturn, 1) := by decide +kernel
theorem dX6_kept_0 : decode cX6_kept 0 = .ok (.aload_n 0, 1) := by decide +kernel
theorem dX6_kept_1 : decode cX6_kept 1 = .ok (.iconst 0, 1) := by decide +kernel
theorem dX6_kept_2 : decode cX6_kept 2 = .ok (.putfield 78, 3) := by decide +kernel
theorem dX6_kept_5 : decode cX6_kept 5 = .ok (.aload_n 0, 1) := by decide +kernel
theorem dX6_kept_6 : decode cX6_kept 6 = .ok (.iload_n 1, 1) := by decide +kernel
theorem dX6_kept_7 : decode cX6_kept 7 = .ok (.invokevirtual 87, 3) := by decide +kernel
theorem dX6_kept_10 : decode cX6_kept 10 = .ok (.istore 5, 2) := by decide +kernel
theorem dX6_kept_12 : decode cX6_kept 12 = .ok (.iconst 1, 1) := by decide +kernel
theorem dX6_kept_13 : decode cX6_kept 13 = .ok (.istore 6, 2) := by decide +kernel
theorem dX6_kept_15 : decode cX6_kept 15 = .ok (.iload 6, 2) := by decide +kernel
theorem dX6_kept_17 : decode cX6_kept 17 = .ok (.aload_n 0, 1) := by decide +kernel
theorem dX6_kept_18 : decode cX6_kept 18 = .ok (.getfield 116, 3) := by decide +kernel
theorem dX6_kept_21 : decode cX6_kept 21 = .ok (.if_icmp .gt 130, 3) := by decide +kernel
theorem dX6_kept_24 : decode cX6_kept 24 = .ok (.iload 5, 2) := by decide +kernel
theorem dX6_kept_26 : decode cX6_kept 26 = .ok (.ifCond .le 125, 3) := by decide +kernel
theorem dX6_kept_29 : decode cX6_kept 29 = .ok (.iload_n 2, 1) := by decide +kernel
theorem dX6_kept_30 : decode cX6_kept 30 = .ok (.ifCond .lt 121, 3) := by decide +kernel
theorem dX6_kept_33 : decode cX6_kept 33 = .ok (.aload_n 0, 1) := by decide +kernel
theorem dX6_kept_34 : decode cX6_kept 34 = .ok (.iload 6, 2) := by decide +kernel
theorem dX6_kept_36 : decode cX6_kept 36 = .ok (.iload 5, 2) := by decide +kernel
theorem dX6_kept_38 : decode cX6_kept 38 = .ok (.lload_n 3, 1) := by decide +kernel
theorem dX6_kept_39 : decode cX6_kept 39 = .ok (.invokevirtual 128, 3) := by decide +kernel
theorem dX6_kept_42 : decode cX6_kept 42 = .ok (.ifCond .eq 103, 3) := by decide +kernel
theorem dX6_kept_45 : decode cX6_kept 45 = .ok (.iconst 0, 1) := by decide +kernel
theorem dX6_kept_46 : decode cX6_kept 46 = .ok (.istore 7, 2) := by decide +kernel
theorem dX6_kept_48 : decode cX6_kept 48 = .ok (.iconst 1, 1) := by decide +kernel
theorem dX6_kept_49 : decode cX6_kept 49 = .ok (.istore 8, 2) := by decide +kernel
theorem dX6_kept_51 : decode cX6_kept 51 = .ok (.iload 8, 2) := by decide +kernel
theorem dX6_kept_53 : decode cX6_kept 53 = .ok (.aload_n 0, 1) := by decide +kernel
theorem dX6_kept_54 : decode cX6_kept 54 = .ok (.getfield 116, 3) := by decide +kernel
theorem dX6_kept_57 : decode cX6_kept 57 = .ok (.if_icmp .gt 74, 3) := by decide +kernel
theorem dX6_kept_60 : decode cX6_kept 60 = .ok (.iload 7, 2) := by decide +kernel
theorem dX6_kept_62 : decode cX6_kept 62 = .ok (.aload_n 0, 1) := by decide +kernel
theorem dX6_kept_63 : decode cX6_kept 63 = .ok (.iload 8, 2) := by decide +kernel
theorem dX6_kept_65 : decode cX6_kept 65 = .ok (.iload 5, 2) := by decide +kernel
theorem dX6_kept_67 : decode cX6_kept 67 = .ok (.lload_n 3, 1) := by decide +kernel
theorem dX6_kept_68 : decode cX6_kept 68 = .ok (.invokevirtual 128, 3) := by decide +kernel
theorem dX6_kept_71 : decode cX6_kept 71 = .ok (.ifCond .eq 50, 3) := by decide +kernel
theorem dX6_kept_74 : decode cX6_kept 74 = .ok (.aload_n 0, 1) := by decide +kernel
theorem dX6_kept_75 : decode cX6_kept 75 = .ok (.getfield 58, 3) := by decide +kernel
theorem dX6_kept_78 : decode cX6_kept 78 = .ok (.iload 8, 2) := by decide +kernel
theorem dX6_kept_80 : decode cX6_kept 80 = .ok (.laload, 1) := by decide +kernel
theorem dX6_kept_81 : decode cX6_kept 81 = .ok (.aload_n 0, 1) := by decide +kernel
theorem dX6_kept_82 : decode cX6_kept 82 = .ok (.getfield 58, 3) := by decide +kernel
theorem dX6_kept_85 : decode cX6_kept 85 = .ok (.iload 6, 2) := by decide +kernel
theorem dX6_kept_87 : decode cX6_kept 87 = .ok (.laload, 1) := by decide +kernel
theorem dX6_kept_88 : decode cX6_kept 88 = .ok (.lcmp, 1) := by decide +kernel
theorem dX6_kept_89 : decode cX6_kept 89 = .ok (.ifCond .lt 28, 3) := by decide +kernel
theorem dX6_kept_92 : decode cX6_kept 92 = .ok (.aload_n 0, 1) := by decide +kernel
theorem dX6_kept_93 : decode cX6_kept 93 = .ok (.getfield 58, 3) := by decide +kernel
theorem dX6_kept_96 : decode cX6_kept 96 = .ok (.iload 8, 2) := by decide +kernel
theorem dX6_kept_98 : decode cX6_kept 98 = .ok (.laload, 1) := by decide +kernel
theorem dX6_kept_99 : decode cX6_kept 99 = .ok (.aload_n 0, 1) := by decide +kernel
theorem dX6_kept_100 : decode cX6_kept 100 = .ok (.getfield 58, 3) := by decide +kernel
theorem dX6_kept_103 : decode cX6_kept 103 = .ok (.iload 6, 2) := by decide +kernel
theorem dX6_kept_105 : decode cX6_kept 105 = .ok (.laload, 1) := by decide +kernel
theorem dX6_kept_106 : decode cX6_kept 106 = .ok (.lcmp, 1) := by decide +kernel
theorem dX6_kept_107 : decode cX6_kept 107 = .ok (.ifCond .ne 14, 3) := by decide +kernel
theorem dX6_kept_110 : decode cX6_kept 110 = .ok (.iload 8, 2) := by decide +kernel
theorem dX6_kept_112 : decode cX6_kept 112 = .ok (.iload 6, 2) := by decide +kernel
theorem dX6_kept_114 : decode cX6_kept 114 = .ok (.if_icmp .ge 7, 3) := by decide +kernel
theorem dX6_kept_117 : decode cX6_kept 117 = .ok (.iconst 1, 1) := by decide +kernel
theorem dX6_kept_118 : decode cX6_kept 118 = .ok (.goto 4, 3) := by decide +kernel
theorem dX6_kept_121 : decode cX6_kept 121 = .ok (.iconst 0, 1) := by decide +kernel
theorem dX6_kept_122 : decode cX6_kept 122 = .ok (.iadd, 1) := by decide +kernel
theorem dX6_kept_123 : decode cX6_kept 123 = .ok (.istore 7, 2) := by decide +kernel
theorem dX6_kept_125 : decode cX6_kept 125 = .ok (.iinc 8 1, 3) := by decide +kernel
theorem dX6_kept_128 : decode cX6_kept 128 = .ok (.goto (-77), 3) := by decide +kernel
theorem dX6_kept_131 : decode cX6_kept 131 = .ok (.iload 7, 2) := by decide +kernel
theorem dX6_kept_133 : decode cX6_kept 133 = .ok (.iload_n 2, 1) := by decide +kernel
theorem dX6_kept_134 : decode cX6_kept 134 = .ok (.if_icmp .ne 11, 3) := by decide +kernel
theorem dX6_kept_137 : decode cX6_kept 137 = .ok (.aload_n 0, 1) := by decide +kernel
theorem dX6_kept_138 : decode cX6_kept 138 = .ok (.getfield 52, 3) := by decide +kernel
theorem dX6_kept_141 : decode cX6_kept 141 = .ok (.iload 6, 2) := by decide +kernel
theorem dX6_kept_143 : decode cX6_kept 143 = .ok (.iaload, 1) := by decide +kernel
theorem dX6_kept_144 : decode cX6_kept 144 = .ok (.ireturn, 1) := by decide +kernel
theorem dX6_kept_145 : decode cX6_kept 145 = .ok (.iinc 6 1, 3) := by decide +kernel
theorem dX6_kept_148 : decode cX6_kept 148 = .ok (.goto (-133), 3) := by decide +kernel
theorem dX6_kept_151 : decode cX6_kept 151 = .ok (.ldc 131, 2) := by decide +kernel
theorem dX6_kept_153 : decode cX6_kept 153 = .ok (.ireturn, 1) := by decide +kernel
theorem dX6_anonymise_0 : decode cX6_anonymise 0 = .ok (.aload_n 0, 1) := by decide +kernel
theorem dX6_anonymise_1 : decode cX6_anonymise 1 = .ok (.iconst 0, 1) := by decide +kernel
theorem dX6_anonymise_2 : decode cX6_anonymise 2 = .ok (.putfield 78, 3) := by decide +kernel
theorem dX6_anonymise_5 : decode cX6_anonymise 5 = .ok (.lload_n 1, 1) := by decide +kernel
theorem dX6_anonymise_6 : decode cX6_anonymise 6 = .ok (.invokestatic 108, 3) := by decide +kernel
theorem dX6_anonymise_9 : decode cX6_anonymise 9 = .ok (.ifCond .eq 12, 3) := by decide +kernel
theorem dX6_anonymise_12 : decode cX6_anonymise 12 = .ok (.aload_n 0, 1) := by decide +kernel
theorem dX6_anonymise_13 : decode cX6_anonymise 13 = .ok (.iconst 0, 1) := by decide +kernel
theorem dX6_anonymise_14 : decode cX6_anonymise 14 = .ok (.lload_n 1, 1) := by decide +kernel
theorem dX6_anonymise_15 : decode cX6_anonymise 15 = .ok (.invokevirtual 123, 3) := by decide +kernel
theorem dX6_anonymise_18 : decode cX6_anonymise 18 = .ok (.goto 4, 3) := by decide +kernel
theorem dX6_anonymise_21 : decode cX6_anonymise 21 = .ok (.iconst (-1), 1) := by decide +kernel
theorem dX6_anonymise_22 : decode cX6_anonymise 22 = .ok (.ireturn, 1) := by decide +kernel
theorem dX6_join_0 : decode cX6_join 0 = .ok (.aload_n 0, 1) := by decide +kernel
theorem dX6_join_1 : decode cX6_join 1 = .ok (.iconst 0, 1) := by decide +kernel
theorem dX6_join_2 : decode cX6_join 2 = .ok (.putfield 78, 3) := by decide +kernel
theorem dX6_join_5 : decode cX6_join 5 = .ok (.aload_n 0, 1) := by decide +kernel
theorem dX6_join_6 : decode cX6_join 6 = .ok (.iload_n 1, 1) := by decide +kernel
theorem dX6_join_7 : decode cX6_join 7 = .ok (.invokevirtual 87, 3) := by decide +kernel
theorem dX6_join_10 : decode cX6_join 10 = .ok (.istore_n 3, 1) := by decide +kernel
theorem dX6_join_11 : decode cX6_join 11 = .ok (.aload_n 0, 1) := by decide +kernel
theorem dX6_join_12 : decode cX6_join 12 = .ok (.iload_n 2, 1) := by decide +kernel
theorem dX6_join_13 : decode cX6_join 13 = .ok (.invokevirtual 87, 3) := by decide +kernel
theorem dX6_join_16 : decode cX6_join 16 = .ok (.istore 4, 2) := by decide +kernel
theorem dX6_join_18 : decode cX6_join 18 = .ok (.iload_n 3, 1) := by decide +kernel
theorem dX6_join_19 : decode cX6_join 19 = .ok (.ifCond .eq 25, 3) := by decide +kernel
theorem dX6_join_22 : decode cX6_join 22 = .ok (.iload 4, 2) := by decide +kernel
theorem dX6_join_24 : decode cX6_join 24 = .ok (.ifCond .eq 20, 3) := by decide +kernel
theorem dX6_join_27 : decode cX6_join 27 = .ok (.iload_n 3, 1) := by decide +kernel
theorem dX6_join_28 : decode cX6_join 28 = .ok (.iload 4, 2) := by decide +kernel
theorem dX6_join_30 : decode cX6_join 30 = .ok (.if_icmp .eq 14, 3) := by decide +kernel
theorem dX6_join_33 : decode cX6_join 33 = .ok (.aload_n 0, 1) := by decide +kernel
theorem dX6_join_34 : decode cX6_join 34 = .ok (.getfield 16, 3) := by decide +kernel
theorem dX6_join_37 : decode cX6_join 37 = .ok (.iload 4, 2) := by decide +kernel
theorem dX6_join_39 : decode cX6_join 39 = .ok (.iaload, 1) := by decide +kernel
theorem dX6_join_40 : decode cX6_join 40 = .ok (.iload_n 3, 1) := by decide +kernel
theorem dX6_join_41 : decode cX6_join 41 = .ok (.if_icmp .ne 5, 3) := by decide +kernel
theorem dX6_join_44 : decode cX6_join 44 = .ok (.iconst 0, 1) := by decide +kernel
theorem dX6_join_45 : decode cX6_join 45 = .ok (.ireturn, 1) := by decide +kernel
theorem dX6_join_46 : decode cX6_join 46 = .ok (.iconst 1, 1) := by decide +kernel
theorem dX6_join_47 : decode cX6_join 47 = .ok (.istore 5, 2) := by decide +kernel
theorem dX6_join_49 : decode cX6_join 49 = .ok (.iload 5, 2) := by decide +kernel
theorem dX6_join_51 : decode cX6_join 51 = .ok (.aload_n 0, 1) := by decide +kernel
theorem dX6_join_52 : decode cX6_join 52 = .ok (.getfield 82, 3) := by decide +kernel
theorem dX6_join_55 : decode cX6_join 55 = .ok (.if_icmp .gt 42, 3) := by decide +kernel
theorem dX6_join_58 : decode cX6_join 58 = .ok (.aload_n 0, 1) := by decide +kernel
theorem dX6_join_59 : decode cX6_join 59 = .ok (.getfield 7, 3) := by decide +kernel
theorem dX6_join_62 : decode cX6_join 62 = .ok (.iload 5, 2) := by decide +kernel
theorem dX6_join_64 : decode cX6_join 64 = .ok (.iaload, 1) := by decide +kernel
theorem dX6_join_65 : decode cX6_join 65 = .ok (.ifCond .ne 26, 3) := by decide +kernel
theorem dX6_join_68 : decode cX6_join 68 = .ok (.aload_n 0, 1) := by decide +kernel
theorem dX6_join_69 : decode cX6_join 69 = .ok (.getfield 16, 3) := by decide +kernel
theorem dX6_join_72 : decode cX6_join 72 = .ok (.iload 5, 2) := by decide +kernel
theorem dX6_join_74 : decode cX6_join 74 = .ok (.iaload, 1) := by decide +kernel
theorem dX6_join_75 : decode cX6_join 75 = .ok (.iload_n 3, 1) := by decide +kernel
theorem dX6_join_76 : decode cX6_join 76 = .ok (.if_icmp .ne 15, 3) := by decide +kernel
theorem dX6_join_79 : decode cX6_join 79 = .ok (.aload_n 0, 1) := by decide +kernel
theorem dX6_join_80 : decode cX6_join 80 = .ok (.getfield 16, 3) := by decide +kernel
theorem dX6_join_83 : decode cX6_join 83 = .ok (.iload 4, 2) := by decide +kernel
theorem dX6_join_85 : decode cX6_join 85 = .ok (.iaload, 1) := by decide +kernel
theorem dX6_join_86 : decode cX6_join 86 = .ok (.ifCond .eq 5, 3) := by decide +kernel
theorem dX6_join_89 : decode cX6_join 89 = .ok (.iconst 0, 1) := by decide +kernel
theorem dX6_join_90 : decode cX6_join 90 = .ok (.ireturn, 1) := by decide +kernel
theorem dX6_join_91 : decode cX6_join 91 = .ok (.iinc 5 1, 3) := by decide +kernel
theorem dX6_join_94 : decode cX6_join 94 = .ok (.goto (-45), 3) := by decide +kernel
theorem dX6_join_97 : decode cX6_join 97 = .ok (.iconst 1, 1) := by decide +kernel
theorem dX6_join_98 : decode cX6_join 98 = .ok (.istore 5, 2) := by decide +kernel
theorem dX6_join_100 : decode cX6_join 100 = .ok (.iload 5, 2) := by decide +kernel
theorem dX6_join_102 : decode cX6_join 102 = .ok (.aload_n 0, 1) := by decide +kernel
theorem dX6_join_103 : decode cX6_join 103 = .ok (.getfield 82, 3) := by decide +kernel
theorem dX6_join_106 : decode cX6_join 106 = .ok (.if_icmp .gt 39, 3) := by decide +kernel
theorem dX6_join_109 : decode cX6_join 109 = .ok (.aload_n 0, 1) := by decide +kernel
theorem dX6_join_110 : decode cX6_join 110 = .ok (.getfield 16, 3) := by decide +kernel
theorem dX6_join_113 : decode cX6_join 113 = .ok (.iload 5, 2) := by decide +kernel
theorem dX6_join_115 : decode cX6_join 115 = .ok (.aload_n 0, 1) := by decide +kernel
theorem dX6_join_116 : decode cX6_join 116 = .ok (.getfield 16, 3) := by decide +kernel
theorem dX6_join_119 : decode cX6_join 119 = .ok (.iload 5, 2) := by decide +kernel
theorem dX6_join_121 : decode cX6_join 121 = .ok (.iaload, 1) := by decide +kernel
theorem dX6_join_122 : decode cX6_join 122 = .ok (.iload_n 3, 1) := by decide +kernel
theorem dX6_join_123 : decode cX6_join 123 = .ok (.if_icmp .ne 8, 3) := by decide +kernel
theorem dX6_join_126 : decode cX6_join 126 = .ok (.iload 4, 2) := by decide +kernel
theorem dX6_join_128 : decode cX6_join 128 = .ok (.goto 10, 3) := by decide +kernel
theorem dX6_join_131 : decode cX6_join 131 = .ok (.aload_n 0, 1) := by decide +kernel
theorem dX6_join_132 : decode cX6_join 132 = .ok (.getfield 16, 3) := by decide +kernel
theorem dX6_join_135 : decode cX6_join 135 = .ok (.iload 5, 2) := by decide +kernel
theorem dX6_join_137 : decode cX6_join 137 = .ok (.iaload, 1) := by decide +kernel
theorem dX6_join_138 : decode cX6_join 138 = .ok (.iastore, 1) := by decide +kernel
theorem dX6_join_139 : decode cX6_join 139 = .ok (.iinc 5 1, 3) := by decide +kernel
theorem dX6_join_142 : decode cX6_join 142 = .ok (.goto (-42), 3) := by decide +kernel
theorem dX6_join_145 : decode cX6_join 145 = .ok (.iconst 0, 1) := by decide +kernel
theorem dX6_join_146 : decode cX6_join 146 = .ok (.istore 5, 2) := by decide +kernel
theorem dX6_join_148 : decode cX6_join 148 = .ok (.iload 5, 2) := by decide +kernel
theorem dX6_join_150 : decode cX6_join 150 = .ok (.bipush 6, 2) := by decide +kernel
theorem dX6_join_152 : decode cX6_join 152 = .ok (.if_icmp .ge 79, 3) := by decide +kernel
theorem dX6_join_155 : decode cX6_join 155 = .ok (.aload_n 0, 1) := by decide +kernel
theorem dX6_join_156 : decode cX6_join 156 = .ok (.getfield 23, 3) := by decide +kernel
theorem dX6_join_159 : decode cX6_join 159 = .ok (.bipush 6, 2) := by decide +kernel
theorem dX6_join_161 : decode cX6_join 161 = .ok (.iload 4, 2) := by decide +kernel
theorem dX6_join_163 : decode cX6_join 163 = .ok (.imul, 1) := by decide +kernel
theorem dX6_join_164 : decode cX6_join 164 = .ok (.iload 5, 2) := by decide +kernel
theorem dX6_join_166 : decode cX6_join 166 = .ok (.iadd, 1) := by decide +kernel
theorem dX6_join_167 : decode cX6_join 167 = .ok (.aload_n 0, 1) := by decide +kernel
theorem dX6_join_168 : decode cX6_join 168 = .ok (.getfield 23, 3) := by decide +kernel
theorem dX6_join_171 : decode cX6_join 171 = .ok (.bipush 6, 2) := by decide +kernel
theorem dX6_join_173 : decode cX6_join 173 = .ok (.iload_n 3, 1) := by decide +kernel
theorem dX6_join_174 : decode cX6_join 174 = .ok (.imul, 1) := by decide +kernel
theorem dX6_join_175 : decode cX6_join 175 = .ok (.iload 5, 2) := by decide +kernel
theorem dX6_join_177 : decode cX6_join 177 = .ok (.iadd, 1) := by decide +kernel
theorem dX6_join_178 : decode cX6_join 178 = .ok (.laload, 1) := by decide +kernel
theorem dX6_join_179 : decode cX6_join 179 = .ok (.aload_n 0, 1) := by decide +kernel
theorem dX6_join_180 : decode cX6_join 180 = .ok (.getfield 23, 3) := by decide +kernel
theorem dX6_join_183 : decode cX6_join 183 = .ok (.bipush 6, 2) := by decide +kernel
theorem dX6_join_185 : decode cX6_join 185 = .ok (.iload 4, 2) := by decide +kernel
theorem dX6_join_187 : decode cX6_join 187 = .ok (.imul, 1) := by decide +kernel
theorem dX6_join_188 : decode cX6_join 188 = .ok (.iload 5, 2) := by decide +kernel
theorem dX6_join_190 : decode cX6_join 190 = .ok (.iadd, 1) := by decide +kernel
theorem dX6_join_191 : decode cX6_join 191 = .ok (.laload, 1) := by decide +kernel
theorem dX6_join_192 : decode cX6_join 192 = .ok (.lcmp, 1) := by decide +kernel
theorem dX6_join_193 : decode cX6_join 193 = .ok (.ifCond .le 18, 3) := by decide +kernel
theorem dX6_join_196 : decode cX6_join 196 = .ok (.aload_n 0, 1) := by decide +kernel
theorem dX6_join_197 : decode cX6_join 197 = .ok (.getfield 23, 3) := by decide +kernel
theorem dX6_join_200 : decode cX6_join 200 = .ok (.bipush 6, 2) := by decide +kernel
theorem dX6_join_202 : decode cX6_join 202 = .ok (.iload_n 3, 1) := by decide +kernel
theorem dX6_join_203 : decode cX6_join 203 = .ok (.imul, 1) := by decide +kernel
theorem dX6_join_204 : decode cX6_join 204 = .ok (.iload 5, 2) := by decide +kernel
theorem dX6_join_206 : decode cX6_join 206 = .ok (.iadd, 1) := by decide +kernel
theorem dX6_join_207 : decode cX6_join 207 = .ok (.laload, 1) := by decide +kernel
theorem dX6_join_208 : decode cX6_join 208 = .ok (.goto 16, 3) := by decide +kernel
theorem dX6_join_211 : decode cX6_join 211 = .ok (.aload_n 0, 1) := by decide +kernel
theorem dX6_join_212 : decode cX6_join 212 = .ok (.getfield 23, 3) := by decide +kernel
theorem dX6_join_215 : decode cX6_join 215 = .ok (.bipush 6, 2) := by decide +kernel
theorem dX6_join_217 : decode cX6_join 217 = .ok (.iload 4, 2) := by decide +kernel
theorem dX6_join_219 : decode cX6_join 219 = .ok (.imul, 1) := by decide +kernel
theorem dX6_join_220 : decode cX6_join 220 = .ok (.iload 5, 2) := by decide +kernel
theorem dX6_join_222 : decode cX6_join 222 = .ok (.iadd, 1) := by decide +kernel
theorem dX6_join_223 : decode cX6_join 223 = .ok (.laload, 1) := by decide +kernel
theorem dX6_join_224 : decode cX6_join 224 = .ok (.lastore, 1) := by decide +kernel
theorem dX6_join_225 : decode cX6_join 225 = .ok (.iinc 5 1, 3) := by decide +kernel
theorem dX6_join_228 : decode cX6_join 228 = .ok (.goto (-80), 3) := by decide +kernel
theorem dX6_join_231 : decode cX6_join 231 = .ok (.iconst 0, 1) := by decide +kernel
theorem dX6_join_232 : decode cX6_join 232 = .ok (.istore 5, 2) := by decide +kernel
theorem dX6_join_234 : decode cX6_join 234 = .ok (.iload 5, 2) := by decide +kernel
theorem dX6_join_236 : decode cX6_join 236 = .ok (.aload_n 0, 1) := by decide +kernel
theorem dX6_join_237 : decode cX6_join 237 = .ok (.getfield 95, 3) := by decide +kernel
theorem dX6_join_240 : decode cX6_join 240 = .ok (.if_icmp .ge 39, 3) := by decide +kernel
theorem dX6_join_243 : decode cX6_join 243 = .ok (.aload_n 0, 1) := by decide +kernel
theorem dX6_join_244 : decode cX6_join 244 = .ok (.getfield 40, 3) := by decide +kernel
theorem dX6_join_247 : decode cX6_join 247 = .ok (.iload 5, 2) := by decide +kernel
theorem dX6_join_249 : decode cX6_join 249 = .ok (.aload_n 0, 1) := by decide +kernel
theorem dX6_join_250 : decode cX6_join 250 = .ok (.getfield 40, 3) := by decide +kernel
theorem dX6_join_253 : decode cX6_join 253 = .ok (.iload 5, 2) := by decide +kernel
theorem dX6_join_255 : decode cX6_join 255 = .ok (.iaload, 1) := by decide +kernel
theorem dX6_join_256 : decode cX6_join 256 = .ok (.iload_n 3, 1) := by decide +kernel
theorem dX6_join_257 : decode cX6_join 257 = .ok (.if_icmp .ne 8, 3) := by decide +kernel
theorem dX6_join_260 : decode cX6_join 260 = .ok (.iload 4, 2) := by decide +kernel
theorem dX6_join_262 : decode cX6_join 262 = .ok (.goto 10, 3) := by decide +kernel
theorem dX6_join_265 : decode cX6_join 265 = .ok (.aload_n 0, 1) := by decide +kernel
theorem dX6_join_266 : decode cX6_join 266 = .ok (.getfield 40, 3) := by decide +kernel
theorem dX6_join_269 : decode cX6_join 269 = .ok (.iload 5, 2) := by decide +kernel
theorem dX6_join_271 : decode cX6_join 271 = .ok (.iaload, 1) := by decide +kernel
theorem dX6_join_272 : decode cX6_join 272 = .ok (.iastore, 1) := by decide +kernel
theorem dX6_join_273 : decode cX6_join 273 = .ok (.iinc 5 1, 3) := by decide +kernel
theorem dX6_join_276 : decode cX6_join 276 = .ok (.goto (-42), 3) := by decide +kernel
theorem dX6_join_279 : decode cX6_join 279 = .ok (.aload_n 0, 1) := by decide +kernel
theorem dX6_join_280 : decode cX6_join 280 = .ok (.getfield 7, 3) := by decide +kernel
theorem dX6_join_283 : decode cX6_join 283 = .ok (.iload_n 3, 1) := by decide +kernel
theorem dX6_join_284 : decode cX6_join 284 = .ok (.iload 4, 2) := by decide +kernel
theorem dX6_join_286 : decode cX6_join 286 = .ok (.iastore, 1) := by decide +kernel
theorem dX6_join_287 : decode cX6_join 287 = .ok (.iconst 1, 1) := by decide +kernel
theorem dX6_join_288 : decode cX6_join 288 = .ok (.ireturn, 1) := by decide +kernel
theorem dX6_family_0 : decode cX6_family 0 = .ok (.aload_n 0, 1) := by decide +kernel
theorem dX6_family_1 : decode cX6_family 1 = .ok (.iconst 0, 1) := by decide +kernel
theorem dX6_family_2 : decode cX6_family 2 = .ok (.putfield 78, 3) := by decide +kernel
theorem dX6_family_5 : decode cX6_family 5 = .ok (.aload_n 0, 1) := by decide +kernel
theorem dX6_family_6 : decode cX6_family 6 = .ok (.iload_n 1, 1) := by decide +kernel
theorem dX6_family_7 : decode cX6_family 7 = .ok (.invokevirtual 87, 3) := by decide +kernel
theorem dX6_family_10 : decode cX6_family 10 = .ok (.istore_n 3, 1) := by decide +kernel
theorem dX6_family_11 : decode cX6_family 11 = .ok (.iload_n 3, 1) := by decide +kernel
theorem dX6_family_12 : decode cX6_family 12 = .ok (.ifCond .eq 7, 3) := by decide +kernel
theorem dX6_family_15 : decode cX6_family 15 = .ok (.iload_n 2, 1) := by decide +kernel
theorem dX6_family_16 : decode cX6_family 16 = .ok (.ifCond .ge 5, 3) := by decide +kernel
theorem dX6_family_19 : decode cX6_family 19 = .ok (.iconst 0, 1) := by decide +kernel
theorem dX6_family_20 : decode cX6_family 20 = .ok (.ireturn, 1) := by decide +kernel
theorem dX6_family_21 : decode cX6_family 21 = .ok (.aload_n 0, 1) := by decide +kernel
theorem dX6_family_22 : decode cX6_family 22 = .ok (.getfield 16, 3) := by decide +kernel
theorem dX6_family_25 : decode cX6_family 25 = .ok (.iload_n 3, 1) := by decide +kernel
theorem dX6_family_26 : decode cX6_family 26 = .ok (.iaload, 1) := by decide +kernel
theorem dX6_family_27 : decode cX6_family 27 = .ok (.ifCond .ne 7, 3) := by decide +kernel
theorem dX6_family_30 : decode cX6_family 30 = .ok (.iload_n 3, 1) := by decide +kernel
theorem dX6_family_31 : decode cX6_family 31 = .ok (.goto 9, 3) := by decide +kernel
theorem dX6_family_34 : decode cX6_family 34 = .ok (.aload_n 0, 1) := by decide +kernel
theorem dX6_family_35 : decode cX6_family 35 = .ok (.getfield 16, 3) := by decide +kernel
theorem dX6_family_38 : decode cX6_family 38 = .ok (.iload_n 3, 1) := by decide +kernel
theorem dX6_family_39 : decode cX6_family 39 = .ok (.iaload, 1) := by decide +kernel
theorem dX6_family_40 : decode cX6_family 40 = .ok (.istore 4, 2) := by decide +kernel
theorem dX6_family_42 : decode cX6_family 42 = .ok (.iconst 0, 1) := by decide +kernel
theorem dX6_family_43 : decode cX6_family 43 = .ok (.istore 5, 2) := by decide +kernel
theorem dX6_family_45 : decode cX6_family 45 = .ok (.iconst 1, 1) := by decide +kernel
theorem dX6_family_46 : decode cX6_family 46 = .ok (.istore 6, 2) := by decide +kernel
theorem dX6_family_48 : decode cX6_family 48 = .ok (.iload 6, 2) := by decide +kernel
theorem dX6_family_50 : decode cX6_family 50 = .ok (.aload_n 0, 1) := by decide +kernel
theorem dX6_family_51 : decode cX6_family 51 = .ok (.getfield 82, 3) := by decide +kernel
theorem dX6_family_54 : decode cX6_family 54 = .ok (.if_icmp .gt 47, 3) := by decide +kernel
theorem dX6_family_57 : decode cX6_family 57 = .ok (.iload_n 2, 1) := by decide +kernel
theorem dX6_family_58 : decode cX6_family 58 = .ok (.ifCond .le 43, 3) := by decide +kernel
theorem dX6_family_61 : decode cX6_family 61 = .ok (.aload_n 0, 1) := by decide +kernel
theorem dX6_family_62 : decode cX6_family 62 = .ok (.getfield 7, 3) := by decide +kernel
theorem dX6_family_65 : decode cX6_family 65 = .ok (.iload 6, 2) := by decide +kernel
theorem dX6_family_67 : decode cX6_family 67 = .ok (.iaload, 1) := by decide +kernel
theorem dX6_family_68 : decode cX6_family 68 = .ok (.ifCond .ne 27, 3) := by decide +kernel
theorem dX6_family_71 : decode cX6_family 71 = .ok (.aload_n 0, 1) := by decide +kernel
theorem dX6_family_72 : decode cX6_family 72 = .ok (.getfield 16, 3) := by decide +kernel
theorem dX6_family_75 : decode cX6_family 75 = .ok (.iload 6, 2) := by decide +kernel
theorem dX6_family_77 : decode cX6_family 77 = .ok (.iaload, 1) := by decide +kernel
theorem dX6_family_78 : decode cX6_family 78 = .ok (.iload 4, 2) := by decide +kernel
theorem dX6_family_80 : decode cX6_family 80 = .ok (.if_icmp .ne 15, 3) := by decide +kernel
theorem dX6_family_83 : decode cX6_family 83 = .ok (.iinc 5 1, 3) := by decide +kernel
theorem dX6_family_86 : decode cX6_family 86 = .ok (.iload 5, 2) := by decide +kernel
theorem dX6_family_88 : decode cX6_family 88 = .ok (.iload_n 2, 1) := by decide +kernel
theorem dX6_family_89 : decode cX6_family 89 = .ok (.if_icmp .ne 6, 3) := by decide +kernel
theorem dX6_family_92 : decode cX6_family 92 = .ok (.iload 6, 2) := by decide +kernel
theorem dX6_family_94 : decode cX6_family 94 = .ok (.ireturn, 1) := by decide +kernel
theorem dX6_family_95 : decode cX6_family 95 = .ok (.iinc 6 1, 3) := by decide +kernel
theorem dX6_family_98 : decode cX6_family 98 = .ok (.goto (-50), 3) := by decide +kernel
theorem dX6_family_101 : decode cX6_family 101 = .ok (.iload_n 2, 1) := by decide +kernel
theorem dX6_family_102 : decode cX6_family 102 = .ok (.ifCond .ne 8, 3) := by decide +kernel
theorem dX6_family_105 : decode cX6_family 105 = .ok (.iload 4, 2) := by decide +kernel
theorem dX6_family_107 : decode cX6_family 107 = .ok (.goto 4, 3) := by decide +kernel
theorem dX6_family_110 : decode cX6_family 110 = .ok (.iconst 0, 1) := by decide +kernel
theorem dX6_family_111 : decode cX6_family 111 = .ok (.ireturn, 1) := by decide +kernel
theorem dX6_sign_0 : decode cX6_sign 0 = .ok (.aload_n 0, 1) := by decide +kernel
theorem dX6_sign_1 : decode cX6_sign 1 = .ok (.iconst 0, 1) := by decide +kernel
theorem dX6_sign_2 : decode cX6_sign 2 = .ok (.putfield 78, 3) := by decide +kernel
theorem dX6_sign_5 : decode cX6_sign 5 = .ok (.aload_n 0, 1) := by decide +kernel
theorem dX6_sign_6 : decode cX6_sign 6 = .ok (.getfield 132, 3) := by decide +kernel
theorem dX6_sign_9 : decode cX6_sign 9 = .ok (.bipush 40, 2) := by decide +kernel
theorem dX6_sign_11 : decode cX6_sign 11 = .ok (.if_icmp .ge 24, 3) := by decide +kernel
theorem dX6_sign_14 : decode cX6_sign 14 = .ok (.aload_n 0, 1) := by decide +kernel
theorem dX6_sign_15 : decode cX6_sign 15 = .ok (.getfield 67, 3) := by decide +kernel
theorem dX6_sign_18 : decode cX6_sign 18 = .ok (.aload_n 0, 1) := by decide +kernel
theorem dX6_sign_19 : decode cX6_sign 19 = .ok (.getfield 132, 3) := by decide +kernel
theorem dX6_sign_22 : decode cX6_sign 22 = .ok (.iload_n 1, 1) := by decide +kernel
theorem dX6_sign_23 : decode cX6_sign 23 = .ok (.i2b, 1) := by decide +kernel
theorem dX6_sign_24 : decode cX6_sign 24 = .ok (.bastore, 1) := by decide +kernel
theorem dX6_sign_25 : decode cX6_sign 25 = .ok (.aload_n 0, 1) := by decide +kernel
theorem dX6_sign_26 : decode cX6_sign 26 = .ok (.dup, 1) := by decide +kernel
theorem dX6_sign_27 : decode cX6_sign 27 = .ok (.getfield 132, 3) := by decide +kernel
theorem dX6_sign_30 : decode cX6_sign 30 = .ok (.iconst 1, 1) := by decide +kernel
theorem dX6_sign_31 : decode cX6_sign 31 = .ok (.iadd, 1) := by decide +kernel
theorem dX6_sign_32 : decode cX6_sign 32 = .ok (.putfield 132, 3) := by decide +kernel
theorem dX6_sign_35 : decode cX6_sign 35 = .ok (.return_, 1) := by decide +kernel
theorem dX6_look_0 : decode cX6_look 0 = .ok (.aload_n 0, 1) := by decide +kernel
theorem dX6_look_1 : decode cX6_look 1 = .ok (.getfield 135, 3) := by decide +kernel
theorem dX6_look_4 : decode cX6_look 4 = .ok (.aload_n 0, 1) := by decide +kernel
theorem dX6_look_5 : decode cX6_look 5 = .ok (.getfield 132, 3) := by decide +kernel
theorem dX6_look_8 : decode cX6_look 8 = .ok (.if_icmp .ge 19, 3) := by decide +kernel
theorem dX6_look_11 : decode cX6_look 11 = .ok (.aload_n 0, 1) := by decide +kernel
theorem dX6_look_12 : decode cX6_look 12 = .ok (.getfield 67, 3) := by decide +kernel
theorem dX6_look_15 : decode cX6_look 15 = .ok (.aload_n 0, 1) := by decide +kernel
theorem dX6_look_16 : decode cX6_look 16 = .ok (.getfield 135, 3) := by decide +kernel
theorem dX6_look_19 : decode cX6_look 19 = .ok (.baload, 1) := by decide +kernel
theorem dX6_look_20 : decode cX6_look 20 = .ok (.sipush 255, 3) := by decide +kernel
theorem dX6_look_23 : decode cX6_look 23 = .ok (.iand, 1) := by decide +kernel
theorem dX6_look_24 : decode cX6_look 24 = .ok (.goto 4, 3) := by decide +kernel
theorem dX6_look_27 : decode cX6_look 27 = .ok (.iconst (-1), 1) := by decide +kernel
theorem dX6_look_28 : decode cX6_look 28 = .ok (.ireturn, 1) := by decide +kernel
theorem dX6_letters_0 : decode cX6_letters 0 = .ok (.iconst 0, 1) := by decide +kernel
theorem dX6_letters_1 : decode cX6_letters 1 = .ok (.istore_n 1, 1) := by decide +kernel
theorem dX6_letters_2 : decode cX6_letters 2 = .ok (.iload_n 1, 1) := by decide +kernel
theorem dX6_letters_3 : decode cX6_letters 3 = .ok (.bipush 12, 2) := by decide +kernel
theorem dX6_letters_5 : decode cX6_letters 5 = .ok (.if_icmp .ge 37, 3) := by decide +kernel
theorem dX6_letters_8 : decode cX6_letters 8 = .ok (.aload_n 0, 1) := by decide +kernel
theorem dX6_letters_9 : decode cX6_letters 9 = .ok (.invokevirtual 138, 3) := by decide +kernel
theorem dX6_letters_12 : decode cX6_letters 12 = .ok (.bipush 97, 2) := by decide +kernel
theorem dX6_letters_14 : decode cX6_letters 14 = .ok (.if_icmp .lt 28, 3) := by decide +kernel
theorem dX6_letters_17 : decode cX6_letters 17 = .ok (.aload_n 0, 1) := by decide +kernel
theorem dX6_letters_18 : decode cX6_letters 18 = .ok (.invokevirtual 138, 3) := by decide +kernel
theorem dX6_letters_21 : decode cX6_letters 21 = .ok (.bipush 122, 2) := by decide +kernel
theorem dX6_letters_23 : decode cX6_letters 23 = .ok (.if_icmp .gt 19, 3) := by decide +kernel
theorem dX6_letters_26 : decode cX6_letters 26 = .ok (.aload_n 0, 1) := by decide +kernel
theorem dX6_letters_27 : decode cX6_letters 27 = .ok (.dup, 1) := by decide +kernel
theorem dX6_letters_28 : decode cX6_letters 28 = .ok (.getfield 135, 3) := by decide +kernel
theorem dX6_letters_31 : decode cX6_letters 31 = .ok (.iconst 1, 1) := by decide +kernel
theorem dX6_letters_32 : decode cX6_letters 32 = .ok (.iadd, 1) := by decide +kernel
theorem dX6_letters_33 : decode cX6_letters 33 = .ok (.putfield 135, 3) := by decide +kernel
theorem dX6_letters_36 : decode cX6_letters 36 = .ok (.iinc 1 1, 3) := by decide +kernel
theorem dX6_letters_39 : decode cX6_letters 39 = .ok (.goto (-37), 3) := by decide +kernel
theorem dX6_letters_42 : decode cX6_letters 42 = .ok (.iload_n 1, 1) := by decide +kernel
theorem dX6_letters_43 : decode cX6_letters 43 = .ok (.ireturn, 1) := by decide +kernel
theorem dX6_isNamed_0 : decode cX6_isNamed 0 = .ok (.aload_n 0, 1) := by decide +kernel
theorem dX6_isNamed_1 : decode cX6_isNamed 1 = .ok (.getfield 31, 3) := by decide +kernel
theorem dX6_isNamed_4 : decode cX6_isNamed 4 = .ok (.iload_n 1, 1) := by decide +kernel
theorem dX6_isNamed_5 : decode cX6_isNamed 5 = .ok (.iaload, 1) := by decide +kernel
theorem dX6_isNamed_6 : decode cX6_isNamed 6 = .ok (.iload_n 2, 1) := by decide +kernel
theorem dX6_isNamed_7 : decode cX6_isNamed 7 = .ok (.if_icmp .ne 7, 3) := by decide +kernel
theorem dX6_isNamed_10 : decode cX6_isNamed 10 = .ok (.iconst 1, 1) := by decide +kernel
theorem dX6_isNamed_11 : decode cX6_isNamed 11 = .ok (.goto 4, 3) := by decide +kernel
theorem dX6_isNamed_14 : decode cX6_isNamed 14 = .ok (.iconst 0, 1) := by decide +kernel
theorem dX6_isNamed_15 : decode cX6_isNamed 15 = .ok (.istore_n 3, 1) := by decide +kernel
theorem dX6_isNamed_16 : decode cX6_isNamed 16 = .ok (.iconst 0, 1) := by decide +kernel
theorem dX6_isNamed_17 : decode cX6_isNamed 17 = .ok (.istore 4, 2) := by decide +kernel
theorem dX6_isNamed_19 : decode cX6_isNamed 19 = .ok (.iload 4, 2) := by decide +kernel
theorem dX6_isNamed_21 : decode cX6_isNamed 21 = .ok (.iload_n 2, 1) := by decide +kernel
theorem dX6_isNamed_22 : decode cX6_isNamed 22 = .ok (.if_icmp .ge 41, 3) := by decide +kernel
theorem dX6_isNamed_25 : decode cX6_isNamed 25 = .ok (.iload_n 3, 1) := by decide +kernel
theorem dX6_isNamed_26 : decode cX6_isNamed 26 = .ok (.ifCond .eq 37, 3) := by decide +kernel
theorem dX6_isNamed_29 : decode cX6_isNamed 29 = .ok (.aload_n 0, 1) := by decide +kernel
theorem dX6_isNamed_30 : decode cX6_isNamed 30 = .ok (.getfield 27, 3) := by decide +kernel
theorem dX6_isNamed_33 : decode cX6_isNamed 33 = .ok (.bipush 12, 2) := by decide +kernel
theorem dX6_isNamed_35 : decode cX6_isNamed 35 = .ok (.iload_n 1, 1) := by decide +kernel
theorem dX6_isNamed_36 : decode cX6_isNamed 36 = .ok (.imul, 1) := by decide +kernel
theorem dX6_isNamed_37 : decode cX6_isNamed 37 = .ok (.iload 4, 2) := by decide +kernel
theorem dX6_isNamed_39 : decode cX6_isNamed 39 = .ok (.iadd, 1) := by decide +kernel
theorem dX6_isNamed_40 : decode cX6_isNamed 40 = .ok (.baload, 1) := by decide +kernel
theorem dX6_isNamed_41 : decode cX6_isNamed 41 = .ok (.aload_n 0, 1) := by decide +kernel
theorem dX6_isNamed_42 : decode cX6_isNamed 42 = .ok (.getfield 67, 3) := by decide +kernel
theorem dX6_isNamed_45 : decode cX6_isNamed 45 = .ok (.iload 4, 2) := by decide +kernel
theorem dX6_isNamed_47 : decode cX6_isNamed 47 = .ok (.baload, 1) := by decide +kernel
theorem dX6_isNamed_48 : decode cX6_isNamed 48 = .ok (.if_icmp .ne 7, 3) := by decide +kernel
theorem dX6_isNamed_51 : decode cX6_isNamed 51 = .ok (.iconst 1, 1) := by decide +kernel
theorem dX6_isNamed_52 : decode cX6_isNamed 52 = .ok (.goto 4, 3) := by decide +kernel
theorem dX6_isNamed_55 : decode cX6_isNamed 55 = .ok (.iconst 0, 1) := by decide +kernel
theorem dX6_isNamed_56 : decode cX6_isNamed 56 = .ok (.istore_n 3, 1) := by decide +kernel
theorem dX6_isNamed_57 : decode cX6_isNamed 57 = .ok (.iinc 4 1, 3) := by decide +kernel
theorem dX6_isNamed_60 : decode cX6_isNamed 60 = .ok (.goto (-41), 3) := by decide +kernel
theorem dX6_isNamed_63 : decode cX6_isNamed 63 = .ok (.iload_n 3, 1) := by decide +kernel
theorem dX6_isNamed_64 : decode cX6_isNamed 64 = .ok (.ireturn, 1) := by decide +kernel
theorem dX6_reads_0 : decode cX6_reads 0 = .ok (.aload_n 0, 1) := by decide +kernel
theorem dX6_reads_1 : decode cX6_reads 1 = .ok (.iconst 0, 1) := by decide +kernel
theorem dX6_reads_2 : decode cX6_reads 2 = .ok (.putfield 135, 3) := by decide +kernel
theorem dX6_reads_5 : decode cX6_reads 5 = .ok (.aload_n 0, 1) := by decide +kernel
theorem dX6_reads_6 : decode cX6_reads 6 = .ok (.invokevirtual 142, 3) := by decide +kernel
theorem dX6_reads_9 : decode cX6_reads 9 = .ok (.ifCond .eq 12, 3) := by decide +kernel
theorem dX6_reads_12 : decode cX6_reads 12 = .ok (.aload_n 0, 1) := by decide +kernel
theorem dX6_reads_13 : decode cX6_reads 13 = .ok (.invokevirtual 138, 3) := by decide +kernel
theorem dX6_reads_16 : decode cX6_reads 16 = .ok (.bipush 32, 2) := by decide +kernel
theorem dX6_reads_18 : decode cX6_reads 18 = .ok (.if_icmp .eq 5, 3) := by decide +kernel
theorem dX6_reads_21 : decode cX6_reads 21 = .ok (.iconst 0, 1) := by decide +kernel
theorem dX6_reads_22 : decode cX6_reads 22 = .ok (.ireturn, 1) := by decide +kernel
theorem dX6_reads_23 : decode cX6_reads 23 = .ok (.aload_n 0, 1) := by decide +kernel
theorem dX6_reads_24 : decode cX6_reads 24 = .ok (.dup, 1) := by decide +kernel
theorem dX6_reads_25 : decode cX6_reads 25 = .ok (.getfield 135, 3) := by decide +kernel
theorem dX6_reads_28 : decode cX6_reads 28 = .ok (.iconst 1, 1) := by decide +kernel
theorem dX6_reads_29 : decode cX6_reads 29 = .ok (.iadd, 1) := by decide +kernel
theorem dX6_reads_30 : decode cX6_reads 30 = .ok (.putfield 135, 3) := by decide +kernel
theorem dX6_reads_33 : decode cX6_reads 33 = .ok (.aload_n 0, 1) := by decide +kernel
theorem dX6_reads_34 : decode cX6_reads 34 = .ok (.invokevirtual 138, 3) := by decide +kernel
theorem dX6_reads_37 : decode cX6_reads 37 = .ok (.bipush 48, 2) := by decide +kernel
theorem dX6_reads_39 : decode cX6_reads 39 = .ok (.if_icmp .lt 12, 3) := by decide +kernel
theorem dX6_reads_42 : decode cX6_reads 42 = .ok (.aload_n 0, 1) := by decide +kernel
theorem dX6_reads_43 : decode cX6_reads 43 = .ok (.invokevirtual 138, 3) := by decide +kernel
theorem dX6_reads_46 : decode cX6_reads 46 = .ok (.bipush 52, 2) := by decide +kernel
theorem dX6_reads_48 : decode cX6_reads 48 = .ok (.if_icmp .le 5, 3) := by decide +kernel
theorem dX6_reads_51 : decode cX6_reads 51 = .ok (.iconst 0, 1) := by decide +kernel
theorem dX6_reads_52 : decode cX6_reads 52 = .ok (.ireturn, 1) := by decide +kernel
theorem dX6_reads_53 : decode cX6_reads 53 = .ok (.aload_n 0, 1) := by decide +kernel
theorem dX6_reads_54 : decode cX6_reads 54 = .ok (.dup, 1) := by decide +kernel
theorem dX6_reads_55 : decode cX6_reads 55 = .ok (.getfield 135, 3) := by decide +kernel
theorem dX6_reads_58 : decode cX6_reads 58 = .ok (.iconst 1, 1) := by decide +kernel
theorem dX6_reads_59 : decode cX6_reads 59 = .ok (.iadd, 1) := by decide +kernel
theorem dX6_reads_60 : decode cX6_reads 60 = .ok (.putfield 135, 3) := by decide +kernel
theorem dX6_reads_63 : decode cX6_reads 63 = .ok (.aload_n 0, 1) := by decide +kernel
theorem dX6_reads_64 : decode cX6_reads 64 = .ok (.invokevirtual 138, 3) := by decide +kernel
theorem dX6_reads_67 : decode cX6_reads 67 = .ok (.bipush 32, 2) := by decide +kernel
theorem dX6_reads_69 : decode cX6_reads 69 = .ok (.if_icmp .eq 5, 3) := by decide +kernel
theorem dX6_reads_72 : decode cX6_reads 72 = .ok (.iconst 0, 1) := by decide +kernel
theorem dX6_reads_73 : decode cX6_reads 73 = .ok (.ireturn, 1) := by decide +kernel
theorem dX6_reads_74 : decode cX6_reads 74 = .ok (.aload_n 0, 1) := by decide +kernel
theorem dX6_reads_75 : decode cX6_reads 75 = .ok (.dup, 1) := by decide +kernel
theorem dX6_reads_76 : decode cX6_reads 76 = .ok (.getfield 135, 3) := by decide +kernel
theorem dX6_reads_79 : decode cX6_reads 79 = .ok (.iconst 1, 1) := by decide +kernel
theorem dX6_reads_80 : decode cX6_reads 80 = .ok (.iadd, 1) := by decide +kernel
theorem dX6_reads_81 : decode cX6_reads 81 = .ok (.putfield 135, 3) := by decide +kernel
theorem dX6_reads_84 : decode cX6_reads 84 = .ok (.iconst 0, 1) := by decide +kernel
theorem dX6_reads_85 : decode cX6_reads 85 = .ok (.istore_n 1, 1) := by decide +kernel
theorem dX6_reads_86 : decode cX6_reads 86 = .ok (.iload_n 1, 1) := by decide +kernel
theorem dX6_reads_87 : decode cX6_reads 87 = .ok (.iconst 5, 1) := by decide +kernel
theorem dX6_reads_88 : decode cX6_reads 88 = .ok (.if_icmp .ge 37, 3) := by decide +kernel
theorem dX6_reads_91 : decode cX6_reads 91 = .ok (.aload_n 0, 1) := by decide +kernel
theorem dX6_reads_92 : decode cX6_reads 92 = .ok (.invokevirtual 138, 3) := by decide +kernel
theorem dX6_reads_95 : decode cX6_reads 95 = .ok (.bipush 48, 2) := by decide +kernel
theorem dX6_reads_97 : decode cX6_reads 97 = .ok (.if_icmp .lt 28, 3) := by decide +kernel
theorem dX6_reads_100 : decode cX6_reads 100 = .ok (.aload_n 0, 1) := by decide +kernel
theorem dX6_reads_101 : decode cX6_reads 101 = .ok (.invokevirtual 138, 3) := by decide +kernel
theorem dX6_reads_104 : decode cX6_reads 104 = .ok (.bipush 57, 2) := by decide +kernel
theorem dX6_reads_106 : decode cX6_reads 106 = .ok (.if_icmp .gt 19, 3) := by decide +kernel
theorem dX6_reads_109 : decode cX6_reads 109 = .ok (.aload_n 0, 1) := by decide +kernel
theorem dX6_reads_110 : decode cX6_reads 110 = .ok (.dup, 1) := by decide +kernel
theorem dX6_reads_111 : decode cX6_reads 111 = .ok (.getfield 135, 3) := by decide +kernel
theorem dX6_reads_114 : decode cX6_reads 114 = .ok (.iconst 1, 1) := by decide +kernel
theorem dX6_reads_115 : decode cX6_reads 115 = .ok (.iadd, 1) := by decide +kernel
theorem dX6_reads_116 : decode cX6_reads 116 = .ok (.putfield 135, 3) := by decide +kernel
theorem dX6_reads_119 : decode cX6_reads 119 = .ok (.iinc 1 1, 3) := by decide +kernel
theorem dX6_reads_122 : decode cX6_reads 122 = .ok (.goto (-36), 3) := by decide +kernel
theorem dX6_reads_125 : decode cX6_reads 125 = .ok (.iload_n 1, 1) := by decide +kernel
theorem dX6_reads_126 : decode cX6_reads 126 = .ok (.ifCond .le 18, 3) := by decide +kernel
theorem dX6_reads_129 : decode cX6_reads 129 = .ok (.aload_n 0, 1) := by decide +kernel
theorem dX6_reads_130 : decode cX6_reads 130 = .ok (.getfield 135, 3) := by decide +kernel
theorem dX6_reads_133 : decode cX6_reads 133 = .ok (.aload_n 0, 1) := by decide +kernel
theorem dX6_reads_134 : decode cX6_reads 134 = .ok (.getfield 132, 3) := by decide +kernel
theorem dX6_reads_137 : decode cX6_reads 137 = .ok (.if_icmp .ne 7, 3) := by decide +kernel
theorem dX6_reads_140 : decode cX6_reads 140 = .ok (.iconst 1, 1) := by decide +kernel
theorem dX6_reads_141 : decode cX6_reads 141 = .ok (.goto 4, 3) := by decide +kernel
theorem dX6_reads_144 : decode cX6_reads 144 = .ok (.iconst 0, 1) := by decide +kernel
theorem dX6_reads_145 : decode cX6_reads 145 = .ok (.ireturn, 1) := by decide +kernel
theorem dX6_import0_0 : decode cX6_import0 0 = .ok (.aload_n 0, 1) := by decide +kernel
theorem dX6_import0_1 : decode cX6_import0 1 = .ok (.iconst 0, 1) := by decide +kernel
theorem dX6_import0_2 : decode cX6_import0 2 = .ok (.putfield 78, 3) := by decide +kernel
theorem dX6_import0_5 : decode cX6_import0 5 = .ok (.aload_n 0, 1) := by decide +kernel
theorem dX6_import0_6 : decode cX6_import0 6 = .ok (.invokevirtual 145, 3) := by decide +kernel
theorem dX6_import0_9 : decode cX6_import0 9 = .ok (.istore_n 1, 1) := by decide +kernel
theorem dX6_import0_10 : decode cX6_import0 10 = .ok (.aload_n 0, 1) := by decide +kernel
theorem dX6_import0_11 : decode cX6_import0 11 = .ok (.getfield 132, 3) := by decide +kernel
theorem dX6_import0_14 : decode cX6_import0 14 = .ok (.istore_n 2, 1) := by decide +kernel
theorem dX6_import0_15 : decode cX6_import0 15 = .ok (.iload_n 1, 1) := by decide +kernel
theorem dX6_import0_16 : decode cX6_import0 16 = .ok (.ifCond .ne 16, 3) := by decide +kernel
theorem dX6_import0_19 : decode cX6_import0 19 = .ok (.aload_n 0, 1) := by decide +kernel
theorem dX6_import0_20 : decode cX6_import0 20 = .ok (.iconst 0, 1) := by decide +kernel
theorem dX6_import0_21 : decode cX6_import0 21 = .ok (.putfield 132, 3) := by decide +kernel
theorem dX6_import0_24 : decode cX6_import0 24 = .ok (.bipush (-100), 2) := by decide +kernel
theorem dX6_import0_26 : decode cX6_import0 26 = .ok (.aload_n 0, 1) := by decide +kernel
theorem dX6_import0_27 : decode cX6_import0 27 = .ok (.getfield 135, 3) := by decide +kernel
theorem dX6_import0_30 : decode cX6_import0 30 = .ok (.isub, 1) := by decide +kernel
theorem dX6_import0_31 : decode cX6_import0 31 = .ok (.ireturn, 1) := by decide +kernel
theorem dX6_import0_32 : decode cX6_import0 32 = .ok (.aload_n 0, 1) := by decide +kernel
theorem dX6_import0_33 : decode cX6_import0 33 = .ok (.iconst 0, 1) := by decide +kernel
theorem dX6_import0_34 : decode cX6_import0 34 = .ok (.putfield 135, 3) := by decide +kernel
theorem dX6_import0_37 : decode cX6_import0 37 = .ok (.aload_n 0, 1) := by decide +kernel
theorem dX6_import0_38 : decode cX6_import0 38 = .ok (.invokevirtual 142, 3) := by decide +kernel
theorem dX6_import0_41 : decode cX6_import0 41 = .ok (.istore_n 3, 1) := by decide +kernel
theorem dX6_import0_42 : decode cX6_import0 42 = .ok (.aload_n 0, 1) := by decide +kernel
theorem dX6_import0_43 : decode cX6_import0 43 = .ok (.getfield 67, 3) := by decide +kernel
theorem dX6_import0_46 : decode cX6_import0 46 = .ok (.iload_n 3, 1) := by decide +kernel
theorem dX6_import0_47 : decode cX6_import0 47 = .ok (.iconst 1, 1) := by decide +kernel
theorem dX6_import0_48 : decode cX6_import0 48 = .ok (.iadd, 1) := by decide +kernel
theorem dX6_import0_49 : decode cX6_import0 49 = .ok (.baload, 1) := by decide +kernel
theorem dX6_import0_50 : decode cX6_import0 50 = .ok (.bipush 48, 2) := by decide +kernel
theorem dX6_import0_52 : decode cX6_import0 52 = .ok (.isub, 1) := by decide +kernel
theorem dX6_import0_53 : decode cX6_import0 53 = .ok (.istore 4, 2) := by decide +kernel
theorem dX6_import0_55 : decode cX6_import0 55 = .ok (.iconst 0, 1) := by decide +kernel
theorem dX6_import0_56 : decode cX6_import0 56 = .ok (.istore 5, 2) := by decide +kernel
theorem dX6_import0_58 : decode cX6_import0 58 = .ok (.iload_n 3, 1) := by decide +kernel
theorem dX6_import0_59 : decode cX6_import0 59 = .ok (.iconst 3, 1) := by decide +kernel
theorem dX6_import0_60 : decode cX6_import0 60 = .ok (.iadd, 1) := by decide +kernel
theorem dX6_import0_61 : decode cX6_import0 61 = .ok (.istore 6, 2) := by decide +kernel
theorem dX6_import0_63 : decode cX6_import0 63 = .ok (.iload 6, 2) := by decide +kernel
theorem dX6_import0_65 : decode cX6_import0 65 = .ok (.iload_n 2, 1) := by decide +kernel
theorem dX6_import0_66 : decode cX6_import0 66 = .ok (.if_icmp .ge 27, 3) := by decide +kernel
theorem dX6_import0_69 : decode cX6_import0 69 = .ok (.bipush 10, 2) := by decide +kernel
theorem dX6_import0_71 : decode cX6_import0 71 = .ok (.iload 5, 2) := by decide +kernel
theorem dX6_import0_73 : decode cX6_import0 73 = .ok (.imul, 1) := by decide +kernel
theorem dX6_import0_74 : decode cX6_import0 74 = .ok (.aload_n 0, 1) := by decide +kernel
theorem dX6_import0_75 : decode cX6_import0 75 = .ok (.getfield 67, 3) := by decide +kernel
theorem dX6_import0_78 : decode cX6_import0 78 = .ok (.iload 6, 2) := by decide +kernel
theorem dX6_import0_80 : decode cX6_import0 80 = .ok (.baload, 1) := by decide +kernel
theorem dX6_import0_81 : decode cX6_import0 81 = .ok (.iadd, 1) := by decide +kernel
theorem dX6_import0_82 : decode cX6_import0 82 = .ok (.bipush 48, 2) := by decide +kernel
theorem dX6_import0_84 : decode cX6_import0 84 = .ok (.isub, 1) := by decide +kernel
theorem dX6_import0_85 : decode cX6_import0 85 = .ok (.istore 5, 2) := by decide +kernel
theorem dX6_import0_87 : decode cX6_import0 87 = .ok (.iinc 6 1, 3) := by decide +kernel
theorem dX6_import0_90 : decode cX6_import0 90 = .ok (.goto (-27), 3) := by decide +kernel
theorem dX6_import0_93 : decode cX6_import0 93 = .ok (.aload_n 0, 1) := by decide +kernel
theorem dX6_import0_94 : decode cX6_import0 94 = .ok (.iconst 0, 1) := by decide +kernel
theorem dX6_import0_95 : decode cX6_import0 95 = .ok (.putfield 132, 3) := by decide +kernel
theorem dX6_import0_98 : decode cX6_import0 98 = .ok (.iconst 1, 1) := by decide +kernel
theorem dX6_import0_99 : decode cX6_import0 99 = .ok (.istore 6, 2) := by decide +kernel
theorem dX6_import0_101 : decode cX6_import0 101 = .ok (.iload 6, 2) := by decide +kernel
theorem dX6_import0_103 : decode cX6_import0 103 = .ok (.aload_n 0, 1) := by decide +kernel
theorem dX6_import0_104 : decode cX6_import0 104 = .ok (.getfield 82, 3) := by decide +kernel
theorem dX6_import0_107 : decode cX6_import0 107 = .ok (.if_icmp .gt 45, 3) := by decide +kernel
theorem dX6_import0_110 : decode cX6_import0 110 = .ok (.aload_n 0, 1) := by decide +kernel
theorem dX6_import0_111 : decode cX6_import0 111 = .ok (.getfield 7, 3) := by decide +kernel
theorem dX6_import0_114 : decode cX6_import0 114 = .ok (.iload 6, 2) := by decide +kernel
theorem dX6_import0_116 : decode cX6_import0 116 = .ok (.iaload, 1) := by decide +kernel
theorem dX6_import0_117 : decode cX6_import0 117 = .ok (.ifCond .ne 29, 3) := by decide +kernel
theorem dX6_import0_120 : decode cX6_import0 120 = .ok (.aload_n 0, 1) := by decide +kernel
theorem dX6_import0_121 : decode cX6_import0 121 = .ok (.iload 6, 2) := by decide +kernel
theorem dX6_import0_123 : decode cX6_import0 123 = .ok (.iload_n 3, 1) := by decide +kernel
theorem dX6_import0_124 : decode cX6_import0 124 = .ok (.invokevirtual 149, 3) := by decide +kernel
theorem dX6_import0_127 : decode cX6_import0 127 = .ok (.ifCond .eq 19, 3) := by decide +kernel
theorem dX6_import0_130 : decode cX6_import0 130 = .ok (.aload_n 0, 1) := by decide +kernel
theorem dX6_import0_131 : decode cX6_import0 131 = .ok (.getfield 34, 3) := by decide +kernel
theorem dX6_import0_134 : decode cX6_import0 134 = .ok (.iload 6, 2) := by decide +kernel
theorem dX6_import0_136 : decode cX6_import0 136 = .ok (.iaload, 1) := by decide +kernel
theorem dX6_import0_137 : decode cX6_import0 137 = .ok (.iload 5, 2) := by decide +kernel
theorem dX6_import0_139 : decode cX6_import0 139 = .ok (.if_icmp .ne 7, 3) := by decide +kernel
theorem dX6_import0_142 : decode cX6_import0 142 = .ok (.iload 6, 2) := by decide +kernel
theorem dX6_import0_144 : decode cX6_import0 144 = .ok (.ineg, 1) := by decide +kernel
theorem dX6_import0_145 : decode cX6_import0 145 = .ok (.ireturn, 1) := by decide +kernel
theorem dX6_import0_146 : decode cX6_import0 146 = .ok (.iinc 6 1, 3) := by decide +kernel
theorem dX6_import0_149 : decode cX6_import0 149 = .ok (.goto (-48), 3) := by decide +kernel
theorem dX6_import0_152 : decode cX6_import0 152 = .ok (.aload_n 0, 1) := by decide +kernel
theorem dX6_import0_153 : decode cX6_import0 153 = .ok (.getfield 82, 3) := by decide +kernel
theorem dX6_import0_156 : decode cX6_import0 156 = .ok (.bipush 60, 2) := by decide +kernel
theorem dX6_import0_158 : decode cX6_import0 158 = .ok (.if_icmp .ne 5, 3) := by decide +kernel
theorem dX6_import0_161 : decode cX6_import0 161 = .ok (.iconst 0, 1) := by decide +kernel
theorem dX6_import0_162 : decode cX6_import0 162 = .ok (.ireturn, 1) := by decide +kernel
theorem dX6_import0_163 : decode cX6_import0 163 = .ok (.aload_n 0, 1) := by decide +kernel
theorem dX6_import0_164 : decode cX6_import0 164 = .ok (.dup, 1) := by decide +kernel
theorem dX6_import0_165 : decode cX6_import0 165 = .ok (.getfield 82, 3) := by decide +kernel
theorem dX6_import0_168 : decode cX6_import0 168 = .ok (.iconst 1, 1) := by decide +kernel
theorem dX6_import0_169 : decode cX6_import0 169 = .ok (.iadd, 1) := by decide +kernel
theorem dX6_import0_170 : decode cX6_import0 170 = .ok (.putfield 82, 3) := by decide +kernel
theorem dX6_import0_173 : decode cX6_import0 173 = .ok (.aload_n 0, 1) := by decide +kernel
theorem dX6_import0_174 : decode cX6_import0 174 = .ok (.getfield 13, 3) := by decide +kernel
theorem dX6_import0_177 : decode cX6_import0 177 = .ok (.aload_n 0, 1) := by decide +kernel
theorem dX6_import0_178 : decode cX6_import0 178 = .ok (.getfield 82, 3) := by decide +kernel
theorem dX6_import0_181 : decode cX6_import0 181 = .ok (.iload 4, 2) := by decide +kernel
theorem dX6_import0_183 : decode cX6_import0 183 = .ok (.iastore, 1) := by decide +kernel
theorem dX6_import0_184 : decode cX6_import0 184 = .ok (.aload_n 0, 1) := by decide +kernel
theorem dX6_import0_185 : decode cX6_import0 185 = .ok (.getfield 34, 3) := by decide +kernel
theorem dX6_import0_188 : decode cX6_import0 188 = .ok (.aload_n 0, 1) := by decide +kernel
theorem dX6_import0_189 : decode cX6_import0 189 = .ok (.getfield 82, 3) := by decide +kernel
theorem dX6_import0_192 : decode cX6_import0 192 = .ok (.iload 5, 2) := by decide +kernel
theorem dX6_import0_194 : decode cX6_import0 194 = .ok (.iastore, 1) := by decide +kernel
theorem dX6_import0_195 : decode cX6_import0 195 = .ok (.aload_n 0, 1) := by decide +kernel
theorem dX6_import0_196 : decode cX6_import0 196 = .ok (.getfield 31, 3) := by decide +kernel
theorem dX6_import0_199 : decode cX6_import0 199 = .ok (.aload_n 0, 1) := by decide +kernel
theorem dX6_import0_200 : decode cX6_import0 200 = .ok (.getfield 82, 3) := by decide +kernel
theorem dX6_import0_203 : decode cX6_import0 203 = .ok (.iload_n 3, 1) := by decide +kernel
theorem dX6_import0_204 : decode cX6_import0 204 = .ok (.iastore, 1) := by decide +kernel
theorem dX6_import0_205 : decode cX6_import0 205 = .ok (.iconst 0, 1) := by decide +kernel
theorem dX6_import0_206 : decode cX6_import0 206 = .ok (.istore 6, 2) := by decide +kernel
theorem dX6_import0_208 : decode cX6_import0 208 = .ok (.iload 6, 2) := by decide +kernel
theorem dX6_import0_210 : decode cX6_import0 210 = .ok (.iload_n 3, 1) := by decide +kernel
theorem dX6_import0_211 : decode cX6_import0 211 = .ok (.if_icmp .ge 31, 3) := by decide +kernel
theorem dX6_import0_214 : decode cX6_import0 214 = .ok (.aload_n 0, 1) := by decide +kernel
theorem dX6_import0_215 : decode cX6_import0 215 = .ok (.getfield 27, 3) := by decide +kernel
theorem dX6_import0_218 : decode cX6_import0 218 = .ok (.bipush 12, 2) := by decide +kernel
theorem dX6_import0_220 : decode cX6_import0 220 = .ok (.aload_n 0, 1) := by decide +kernel
theorem dX6_import0_221 : decode cX6_import0 221 = .ok (.getfield 82, 3) := by decide +kernel
theorem dX6_import0_224 : decode cX6_import0 224 = .ok (.imul, 1) := by decide +kernel
theorem dX6_import0_225 : decode cX6_import0 225 = .ok (.iload 6, 2) := by decide +kernel
theorem dX6_import0_227 : decode cX6_import0 227 = .ok (.iadd, 1) := by decide +kernel
theorem dX6_import0_228 : decode cX6_import0 228 = .ok (.aload_n 0, 1) := by decide +kernel
theorem dX6_import0_229 : decode cX6_import0 229 = .ok (.getfield 67, 3) := by decide +kernel
theorem dX6_import0_232 : decode cX6_import0 232 = .ok (.iload 6, 2) := by decide +kernel
theorem dX6_import0_234 : decode cX6_import0 234 = .ok (.baload, 1) := by decide +kernel
theorem dX6_import0_235 : decode cX6_import0 235 = .ok (.bastore, 1) := by decide +kernel
theorem dX6_import0_236 : decode cX6_import0 236 = .ok (.iinc 6 1, 3) := by decide +kernel
theorem dX6_import0_239 : decode cX6_import0 239 = .ok (.goto (-31), 3) := by decide +kernel
theorem dX6_import0_242 : decode cX6_import0 242 = .ok (.aload_n 0, 1) := by decide +kernel
theorem dX6_import0_243 : decode cX6_import0 243 = .ok (.getfield 82, 3) := by decide +kernel
theorem dX6_import0_246 : decode cX6_import0 246 = .ok (.ireturn, 1) := by decide +kernel
theorem dX6_far_0 : decode cX6_far 0 = .ok (.aload_n 0, 1) := by decide +kernel
theorem dX6_far_1 : decode cX6_far 1 = .ok (.getfield 31, 3) := by decide +kernel
theorem dX6_far_4 : decode cX6_far 4 = .ok (.iload_n 1, 1) := by decide +kernel
theorem dX6_far_5 : decode cX6_far 5 = .ok (.iaload, 1) := by decide +kernel
theorem dX6_far_6 : decode cX6_far 6 = .ok (.istore_n 3, 1) := by decide +kernel
theorem dX6_far_7 : decode cX6_far 7 = .ok (.iconst 0, 1) := by decide +kernel
theorem dX6_far_8 : decode cX6_far 8 = .ok (.istore 4, 2) := by decide +kernel
theorem dX6_far_10 : decode cX6_far 10 = .ok (.iload 4, 2) := by decide +kernel
theorem dX6_far_12 : decode cX6_far 12 = .ok (.iload_n 3, 1) := by decide +kernel
theorem dX6_far_13 : decode cX6_far 13 = .ok (.if_icmp .gt 18, 3) := by decide +kernel
theorem dX6_far_16 : decode cX6_far 16 = .ok (.aload_n 0, 1) := by decide +kernel
theorem dX6_far_17 : decode cX6_far 17 = .ok (.getfield 70, 3) := by decide +kernel
theorem dX6_far_20 : decode cX6_far 20 = .ok (.iload 4, 2) := by decide +kernel
theorem dX6_far_22 : decode cX6_far 22 = .ok (.iload 4, 2) := by decide +kernel
theorem dX6_far_24 : decode cX6_far 24 = .ok (.iastore, 1) := by decide +kernel
theorem dX6_far_25 : decode cX6_far 25 = .ok (.iinc 4 1, 3) := by decide +kernel
theorem dX6_far_28 : decode cX6_far 28 = .ok (.goto (-18), 3) := by decide +kernel
theorem dX6_far_31 : decode cX6_far 31 = .ok (.iconst 1, 1) := by decide +kernel
theorem dX6_far_32 : decode cX6_far 32 = .ok (.istore 4, 2) := by decide +kernel
theorem dX6_far_34 : decode cX6_far 34 = .ok (.iload 4, 2) := by decide +kernel
theorem dX6_far_36 : decode cX6_far 36 = .ok (.iload_n 2, 1) := by decide +kernel
theorem dX6_far_37 : decode cX6_far 37 = .ok (.if_icmp .gt 169, 3) := by decide +kernel
theorem dX6_far_40 : decode cX6_far 40 = .ok (.aload_n 0, 1) := by decide +kernel
theorem dX6_far_41 : decode cX6_far 41 = .ok (.getfield 73, 3) := by decide +kernel
theorem dX6_far_44 : decode cX6_far 44 = .ok (.iconst 0, 1) := by decide +kernel
theorem dX6_far_45 : decode cX6_far 45 = .ok (.iload 4, 2) := by decide +kernel
theorem dX6_far_47 : decode cX6_far 47 = .ok (.iastore, 1) := by decide +kernel
theorem dX6_far_48 : decode cX6_far 48 = .ok (.iconst 1, 1) := by decide +kernel
theorem dX6_far_49 : decode cX6_far 49 = .ok (.istore 5, 2) := by decide +kernel
theorem dX6_far_51 : decode cX6_far 51 = .ok (.iload 5, 2) := by decide +kernel
theorem dX6_far_53 : decode cX6_far 53 = .ok (.iload_n 3, 1) := by decide +kernel
theorem dX6_far_54 : decode cX6_far 54 = .ok (.if_icmp .gt 117, 3) := by decide +kernel
theorem dX6_far_57 : decode cX6_far 57 = .ok (.aload_n 0, 1) := by decide +kernel
theorem dX6_far_58 : decode cX6_far 58 = .ok (.getfield 70, 3) := by decide +kernel
theorem dX6_far_61 : decode cX6_far 61 = .ok (.iload 5, 2) := by decide +kernel
theorem dX6_far_63 : decode cX6_far 63 = .ok (.iconst 1, 1) := by decide +kernel
theorem dX6_far_64 : decode cX6_far 64 = .ok (.isub, 1) := by decide +kernel
theorem dX6_far_65 : decode cX6_far 65 = .ok (.iaload, 1) := by decide +kernel
theorem dX6_far_66 : decode cX6_far 66 = .ok (.aload_n 0, 1) := by decide +kernel
theorem dX6_far_67 : decode cX6_far 67 = .ok (.getfield 67, 3) := by decide +kernel
theorem dX6_far_70 : decode cX6_far 70 = .ok (.iload 4, 2) := by decide +kernel
theorem dX6_far_72 : decode cX6_far 72 = .ok (.iconst 1, 1) := by decide +kernel
theorem dX6_far_73 : decode cX6_far 73 = .ok (.isub, 1) := by decide +kernel
theorem dX6_far_74 : decode cX6_far 74 = .ok (.baload, 1) := by decide +kernel
theorem dX6_far_75 : decode cX6_far 75 = .ok (.aload_n 0, 1) := by decide +kernel
theorem dX6_far_76 : decode cX6_far 76 = .ok (.getfield 27, 3) := by decide +kernel
theorem dX6_far_79 : decode cX6_far 79 = .ok (.bipush 12, 2) := by decide +kernel
theorem dX6_far_81 : decode cX6_far 81 = .ok (.iload_n 1, 1) := by decide +kernel
theorem dX6_far_82 : decode cX6_far 82 = .ok (.imul, 1) := by decide +kernel
theorem dX6_far_83 : decode cX6_far 83 = .ok (.iload 5, 2) := by decide +kernel
theorem dX6_far_85 : decode cX6_far 85 = .ok (.iadd, 1) := by decide +kernel
theorem dX6_far_86 : decode cX6_far 86 = .ok (.iconst 1, 1) := by decide +kernel
theorem dX6_far_87 : decode cX6_far 87 = .ok (.isub, 1) := by decide +kernel
theorem dX6_far_88 : decode cX6_far 88 = .ok (.baload, 1) := by decide +kernel
theorem dX6_far_89 : decode cX6_far 89 = .ok (.if_icmp .ne 7, 3) := by decide +kernel
theorem dX6_far_92 : decode cX6_far 92 = .ok (.iconst 0, 1) := by decide +kernel
theorem dX6_far_93 : decode cX6_far 93 = .ok (.goto 4, 3) := by decide +kernel
theorem dX6_far_96 : decode cX6_far 96 = .ok (.iconst 1, 1) := by decide +kernel
theorem dX6_far_97 : decode cX6_far 97 = .ok (.iadd, 1) := by decide +kernel
theorem dX6_far_98 : decode cX6_far 98 = .ok (.istore 6, 2) := by decide +kernel
theorem dX6_far_100 : decode cX6_far 100 = .ok (.aload_n 0, 1) := by decide +kernel
theorem dX6_far_101 : decode cX6_far 101 = .ok (.getfield 70, 3) := by decide +kernel
theorem dX6_far_104 : decode cX6_far 104 = .ok (.iload 5, 2) := by decide +kernel
theorem dX6_far_106 : decode cX6_far 106 = .ok (.iaload, 1) := by decide +kernel
theorem dX6_far_107 : decode cX6_far 107 = .ok (.aload_n 0, 1) := by decide +kernel
theorem dX6_far_108 : decode cX6_far 108 = .ok (.getfield 73, 3) := by decide +kernel
theorem dX6_far_111 : decode cX6_far 111 = .ok (.iload 5, 2) := by decide +kernel
theorem dX6_far_113 : decode cX6_far 113 = .ok (.iconst 1, 1) := by decide +kernel
theorem dX6_far_114 : decode cX6_far 114 = .ok (.isub, 1) := by decide +kernel
theorem dX6_far_115 : decode cX6_far 115 = .ok (.iaload, 1) := by decide +kernel
theorem dX6_far_116 : decode cX6_far 116 = .ok (.if_icmp .ge 15, 3) := by decide +kernel
theorem dX6_far_119 : decode cX6_far 119 = .ok (.aload_n 0, 1) := by decide +kernel
theorem dX6_far_120 : decode cX6_far 120 = .ok (.getfield 70, 3) := by decide +kernel
theorem dX6_far_123 : decode cX6_far 123 = .ok (.iload 5, 2) := by decide +kernel
theorem dX6_far_125 : decode cX6_far 125 = .ok (.iaload, 1) := by decide +kernel
theorem dX6_far_126 : decode cX6_far 126 = .ok (.iconst 1, 1) := by decide +kernel
theorem dX6_far_127 : decode cX6_far 127 = .ok (.iadd, 1) := by decide +kernel
theorem dX6_far_128 : decode cX6_far 128 = .ok (.goto 14, 3) := by decide +kernel
theorem dX6_far_131 : decode cX6_far 131 = .ok (.aload_n 0, 1) := by decide +kernel
theorem dX6_far_132 : decode cX6_far 132 = .ok (.getfield 73, 3) := by decide +kernel
theorem dX6_far_135 : decode cX6_far 135 = .ok (.iload 5, 2) := by decide +kernel
theorem dX6_far_137 : decode cX6_far 137 = .ok (.iconst 1, 1) := by decide +kernel
theorem dX6_far_138 : decode cX6_far 138 = .ok (.isub, 1) := by decide +kernel
theorem dX6_far_139 : decode cX6_far 139 = .ok (.iaload, 1) := by decide +kernel
theorem dX6_far_140 : decode cX6_far 140 = .ok (.iconst 1, 1) := by decide +kernel
theorem dX6_far_141 : decode cX6_far 141 = .ok (.iadd, 1) := by decide +kernel
theorem dX6_far_142 : decode cX6_far 142 = .ok (.istore 7, 2) := by decide +kernel
theorem dX6_far_144 : decode cX6_far 144 = .ok (.aload_n 0, 1) := by decide +kernel
theorem dX6_far_145 : decode cX6_far 145 = .ok (.getfield 73, 3) := by decide +kernel
theorem dX6_far_148 : decode cX6_far 148 = .ok (.iload 5, 2) := by decide +kernel
theorem dX6_far_150 : decode cX6_far 150 = .ok (.iload 6, 2) := by decide +kernel
theorem dX6_far_152 : decode cX6_far 152 = .ok (.iload 7, 2) := by decide +kernel
theorem dX6_far_154 : decode cX6_far 154 = .ok (.if_icmp .ge 8, 3) := by decide +kernel
theorem dX6_far_157 : decode cX6_far 157 = .ok (.iload 6, 2) := by decide +kernel
theorem dX6_far_159 : decode cX6_far 159 = .ok (.goto 5, 3) := by decide +kernel
theorem dX6_far_162 : decode cX6_far 162 = .ok (.iload 7, 2) := by decide +kernel
theorem dX6_far_164 : decode cX6_far 164 = .ok (.iastore, 1) := by decide +kernel
theorem dX6_far_165 : decode cX6_far 165 = .ok (.iinc 5 1, 3) := by decide +kernel
theorem dX6_far_168 : decode cX6_far 168 = .ok (.goto (-117), 3) := by decide +kernel
theorem dX6_far_171 : decode cX6_far 171 = .ok (.iconst 0, 1) := by decide +kernel
theorem dX6_far_172 : decode cX6_far 172 = .ok (.istore 5, 2) := by decide +kernel
theorem dX6_far_174 : decode cX6_far 174 = .ok (.iload 5, 2) := by decide +kernel
theorem dX6_far_176 : decode cX6_far 176 = .ok (.iload_n 3, 1) := by decide +kernel
theorem dX6_far_177 : decode cX6_far 177 = .ok (.if_icmp .gt 23, 3) := by decide +kernel
theorem dX6_far_180 : decode cX6_far 180 = .ok (.aload_n 0, 1) := by decide +kernel
theorem dX6_far_181 : decode cX6_far 181 = .ok (.getfield 70, 3) := by decide +kernel
theorem dX6_far_184 : decode cX6_far 184 = .ok (.iload 5, 2) := by decide +kernel
theorem dX6_far_186 : decode cX6_far 186 = .ok (.aload_n 0, 1) := by decide +kernel
theorem dX6_far_187 : decode cX6_far 187 = .ok (.getfield 73, 3) := by decide +kernel
theorem dX6_far_190 : decode cX6_far 190 = .ok (.iload 5, 2) := by decide +kernel
theorem dX6_far_192 : decode cX6_far 192 = .ok (.iaload, 1) := by decide +kernel
theorem dX6_far_193 : decode cX6_far 193 = .ok (.iastore, 1) := by decide +kernel
theorem dX6_far_194 : decode cX6_far 194 = .ok (.iinc 5 1, 3) := by decide +kernel
theorem dX6_far_197 : decode cX6_far 197 = .ok (.goto (-23), 3) := by decide +kernel
theorem dX6_far_200 : decode cX6_far 200 = .ok (.iinc 4 1, 3) := by decide +kernel
theorem dX6_far_203 : decode cX6_far 203 = .ok (.goto (-169), 3) := by decide +kernel
theorem dX6_far_206 : decode cX6_far 206 = .ok (.aload_n 0, 1) := by decide +kernel
theorem dX6_far_207 : decode cX6_far 207 = .ok (.getfield 70, 3) := by decide +kernel
theorem dX6_far_210 : decode cX6_far 210 = .ok (.iload_n 3, 1) := by decide +kernel
theorem dX6_far_211 : decode cX6_far 211 = .ok (.iaload, 1) := by decide +kernel
theorem dX6_far_212 : decode cX6_far 212 = .ok (.ireturn, 1) := by decide +kernel
theorem dX6_like_0 : decode cX6_like 0 = .ok (.aload_n 0, 1) := by decide +kernel
theorem dX6_like_1 : decode cX6_like 1 = .ok (.iconst 0, 1) := by decide +kernel
theorem dX6_like_2 : decode cX6_like 2 = .ok (.putfield 78, 3) := by decide +kernel
theorem dX6_like_5 : decode cX6_like 5 = .ok (.aload_n 0, 1) := by decide +kernel
theorem dX6_like_6 : decode cX6_like 6 = .ok (.iconst 0, 1) := by decide +kernel
theorem dX6_like_7 : decode cX6_like 7 = .ok (.putfield 135, 3) := by decide +kernel
theorem dX6_like_10 : decode cX6_like 10 = .ok (.aload_n 0, 1) := by decide +kernel
theorem dX6_like_11 : decode cX6_like 11 = .ok (.invokevirtual 142, 3) := by decide +kernel
theorem dX6_like_14 : decode cX6_like 14 = .ok (.istore_n 1, 1) := by decide +kernel
theorem dX6_like_15 : decode cX6_like 15 = .ok (.iload_n 1, 1) := by decide +kernel
theorem dX6_like_16 : decode cX6_like 16 = .ok (.ifCond .le 18, 3) := by decide +kernel
theorem dX6_like_19 : decode cX6_like 19 = .ok (.aload_n 0, 1) := by decide +kernel
theorem dX6_like_20 : decode cX6_like 20 = .ok (.getfield 135, 3) := by decide +kernel
theorem dX6_like_23 : decode cX6_like 23 = .ok (.aload_n 0, 1) := by decide +kernel
theorem dX6_like_24 : decode cX6_like 24 = .ok (.getfield 132, 3) := by decide +kernel
theorem dX6_like_27 : decode cX6_like 27 = .ok (.if_icmp .ne 7, 3) := by decide +kernel
theorem dX6_like_30 : decode cX6_like 30 = .ok (.iconst 1, 1) := by decide +kernel
theorem dX6_like_31 : decode cX6_like 31 = .ok (.goto 4, 3) := by decide +kernel
theorem dX6_like_34 : decode cX6_like 34 = .ok (.iconst 0, 1) := by decide +kernel
theorem dX6_like_35 : decode cX6_like 35 = .ok (.istore_n 2, 1) := by decide +kernel
theorem dX6_like_36 : decode cX6_like 36 = .ok (.aload_n 0, 1) := by decide +kernel
theorem dX6_like_37 : decode cX6_like 37 = .ok (.iconst 0, 1) := by decide +kernel
theorem dX6_like_38 : decode cX6_like 38 = .ok (.putfield 132, 3) := by decide +kernel
theorem dX6_like_41 : decode cX6_like 41 = .ok (.iconst 0, 1) := by decide +kernel
theorem dX6_like_42 : decode cX6_like 42 = .ok (.istore_n 3, 1) := by decide +kernel
theorem dX6_like_43 : decode cX6_like 43 = .ok (.iconst 4, 1) := by decide +kernel
theorem dX6_like_44 : decode cX6_like 44 = .ok (.istore 4, 2) := by decide +kernel
theorem dX6_like_46 : decode cX6_like 46 = .ok (.iconst 1, 1) := by decide +kernel
theorem dX6_like_47 : decode cX6_like 47 = .ok (.istore 5, 2) := by decide +kernel
theorem dX6_like_49 : decode cX6_like 49 = .ok (.iload 5, 2) := by decide +kernel
theorem dX6_like_51 : decode cX6_like 51 = .ok (.aload_n 0, 1) := by decide +kernel
theorem dX6_like_52 : decode cX6_like 52 = .ok (.getfield 82, 3) := by decide +kernel
theorem dX6_like_55 : decode cX6_like 55 = .ok (.if_icmp .gt 72, 3) := by decide +kernel
theorem dX6_like_58 : decode cX6_like 58 = .ok (.iload_n 2, 1) := by decide +kernel
theorem dX6_like_59 : decode cX6_like 59 = .ok (.ifCond .eq 68, 3) := by decide +kernel
theorem dX6_like_62 : decode cX6_like 62 = .ok (.aload_n 0, 1) := by decide +kernel
theorem dX6_like_63 : decode cX6_like 63 = .ok (.getfield 7, 3) := by decide +kernel
theorem dX6_like_66 : decode cX6_like 66 = .ok (.iload 5, 2) := by decide +kernel
theorem dX6_like_68 : decode cX6_like 68 = .ok (.iaload, 1) := by decide +kernel
theorem dX6_like_69 : decode cX6_like 69 = .ok (.ifCond .ne 52, 3) := by decide +kernel
theorem dX6_like_72 : decode cX6_like 72 = .ok (.aload_n 0, 1) := by decide +kernel
theorem dX6_like_73 : decode cX6_like 73 = .ok (.getfield 31, 3) := by decide +kernel
theorem dX6_like_76 : decode cX6_like 76 = .ok (.iload 5, 2) := by decide +kernel
theorem dX6_like_78 : decode cX6_like 78 = .ok (.iaload, 1) := by decide +kernel
theorem dX6_like_79 : decode cX6_like 79 = .ok (.ifCond .le 42, 3) := by decide +kernel
theorem dX6_like_82 : decode cX6_like 82 = .ok (.aload_n 0, 1) := by decide +kernel
theorem dX6_like_83 : decode cX6_like 83 = .ok (.iload 5, 2) := by decide +kernel
theorem dX6_like_85 : decode cX6_like 85 = .ok (.iload_n 1, 1) := by decide +kernel
theorem dX6_like_86 : decode cX6_like 86 = .ok (.invokevirtual 153, 3) := by decide +kernel
theorem dX6_like_89 : decode cX6_like 89 = .ok (.istore 6, 2) := by decide +kernel
theorem dX6_like_91 : decode cX6_like 91 = .ok (.iload 6, 2) := by decide +kernel
theorem dX6_like_93 : decode cX6_like 93 = .ok (.iload 4, 2) := by decide +kernel
theorem dX6_like_95 : decode cX6_like 95 = .ok (.if_icmp .ge 8, 3) := by decide +kernel
theorem dX6_like_98 : decode cX6_like 98 = .ok (.iload 5, 2) := by decide +kernel
theorem dX6_like_100 : decode cX6_like 100 = .ok (.goto 4, 3) := by decide +kernel
theorem dX6_like_103 : decode cX6_like 103 = .ok (.iload_n 3, 1) := by decide +kernel
theorem dX6_like_104 : decode cX6_like 104 = .ok (.istore_n 3, 1) := by decide +kernel
theorem dX6_like_105 : decode cX6_like 105 = .ok (.iload 6, 2) := by decide +kernel
theorem dX6_like_107 : decode cX6_like 107 = .ok (.iload 4, 2) := by decide +kernel
theorem dX6_like_109 : decode cX6_like 109 = .ok (.if_icmp .ge 8, 3) := by decide +kernel
theorem dX6_like_112 : decode cX6_like 112 = .ok (.iload 6, 2) := by decide +kernel
theorem dX6_like_114 : decode cX6_like 114 = .ok (.goto 5, 3) := by decide +kernel
theorem dX6_like_117 : decode cX6_like 117 = .ok (.iload 4, 2) := by decide +kernel
theorem dX6_like_119 : decode cX6_like 119 = .ok (.istore 4, 2) := by decide +kernel
theorem dX6_like_121 : decode cX6_like 121 = .ok (.iinc 5 1, 3) := by decide +kernel
theorem dX6_like_124 : decode cX6_like 124 = .ok (.goto (-75), 3) := by decide +kernel
theorem dX6_like_127 : decode cX6_like 127 = .ok (.iload_n 3, 1) := by decide +kernel
theorem dX6_like_128 : decode cX6_like 128 = .ok (.ireturn, 1) := by decide +kernel
theorem dX6_about_0 : decode cX6_about 0 = .ok (.aload_n 0, 1) := by decide +kernel
theorem dX6_about_1 : decode cX6_about 1 = .ok (.iconst 0, 1) := by decide +kernel
theorem dX6_about_2 : decode cX6_about 2 = .ok (.putfield 78, 3) := by decide +kernel
theorem dX6_about_5 : decode cX6_about 5 = .ok (.aload_n 0, 1) := by decide +kernel
theorem dX6_about_6 : decode cX6_about 6 = .ok (.iload_n 1, 1) := by decide +kernel
theorem dX6_about_7 : decode cX6_about 7 = .ok (.invokevirtual 87, 3) := by decide +kernel
theorem dX6_about_10 : decode cX6_about 10 = .ok (.istore_n 3, 1) := by decide +kernel
theorem dX6_about_11 : decode cX6_about 11 = .ok (.iload_n 3, 1) := by decide +kernel
theorem dX6_about_12 : decode cX6_about 12 = .ok (.ifCond .ne 5, 3) := by decide +kernel
theorem dX6_about_15 : decode cX6_about 15 = .ok (.iconst (-1), 1) := by decide +kernel
theorem dX6_about_16 : decode cX6_about 16 = .ok (.ireturn, 1) := by decide +kernel
theorem dX6_about_17 : decode cX6_about 17 = .ok (.iload_n 2, 1) := by decide +kernel
theorem dX6_about_18 : decode cX6_about 18 = .ok (.tableswitch 128 0 4 #[34, 41, 48, 54, 69], 34) := by decide +kernel
theorem dX6_about_52 : decode cX6_about 52 = .ok (.aload_n 0, 1) := by decide +kernel
theorem dX6_about_53 : decode cX6_about 53 = .ok (.getfield 13, 3) := by decide +kernel
theorem dX6_about_56 : decode cX6_about 56 = .ok (.iload_n 3, 1) := by decide +kernel
theorem dX6_about_57 : decode cX6_about 57 = .ok (.iaload, 1) := by decide +kernel
theorem dX6_about_58 : decode cX6_about 58 = .ok (.ireturn, 1) := by decide +kernel
theorem dX6_about_59 : decode cX6_about 59 = .ok (.aload_n 0, 1) := by decide +kernel
theorem dX6_about_60 : decode cX6_about 60 = .ok (.getfield 16, 3) := by decide +kernel
theorem dX6_about_63 : decode cX6_about 63 = .ok (.iload_n 3, 1) := by decide +kernel
theorem dX6_about_64 : decode cX6_about 64 = .ok (.iaload, 1) := by decide +kernel
theorem dX6_about_65 : decode cX6_about 65 = .ok (.ireturn, 1) := by decide +kernel
theorem dX6_about_66 : decode cX6_about 66 = .ok (.aload_n 0, 1) := by decide +kernel
theorem dX6_about_67 : decode cX6_about 67 = .ok (.iload_n 3, 1) := by decide +kernel
theorem dX6_about_68 : decode cX6_about 68 = .ok (.invokevirtual 98, 3) := by decide +kernel
theorem dX6_about_71 : decode cX6_about 71 = .ok (.ireturn, 1) := by decide +kernel
theorem dX6_about_72 : decode cX6_about 72 = .ok (.aload_n 0, 1) := by decide +kernel
theorem dX6_about_73 : decode cX6_about 73 = .ok (.getfield 19, 3) := by decide +kernel
theorem dX6_about_76 : decode cX6_about 76 = .ok (.iload_n 3, 1) := by decide +kernel
theorem dX6_about_77 : decode cX6_about 77 = .ok (.baload, 1) := by decide +kernel
theorem dX6_about_78 : decode cX6_about 78 = .ok (.ifCond .eq 7, 3) := by decide +kernel
theorem dX6_about_81 : decode cX6_about 81 = .ok (.iconst 1, 1) := by decide +kernel
theorem dX6_about_82 : decode cX6_about 82 = .ok (.goto 4, 3) := by decide +kernel
theorem dX6_about_85 : decode cX6_about 85 = .ok (.iconst 0, 1) := by decide +kernel
theorem dX6_about_86 : decode cX6_about 86 = .ok (.ireturn, 1) := by decide +kernel
theorem dX6_about_87 : decode cX6_about 87 = .ok (.iconst 0, 1) := by decide +kernel
theorem dX6_about_88 : decode cX6_about 88 = .ok (.istore 4, 2) := by decide +kernel
theorem dX6_about_90 : decode cX6_about 90 = .ok (.iconst 1, 1) := by decide +kernel
theorem dX6_about_91 : decode cX6_about 91 = .ok (.istore 5, 2) := by decide +kernel
theorem dX6_about_93 : decode cX6_about 93 = .ok (.iload 5, 2) := by decide +kernel
theorem dX6_about_95 : decode cX6_about 95 = .ok (.aload_n 0, 1) := by decide +kernel
theorem dX6_about_96 : decode cX6_about 96 = .ok (.getfield 116, 3) := by decide +kernel
theorem dX6_about_99 : decode cX6_about 99 = .ok (.if_icmp .gt 44, 3) := by decide +kernel
theorem dX6_about_102 : decode cX6_about 102 = .ok (.iload 4, 2) := by decide +kernel
theorem dX6_about_104 : decode cX6_about 104 = .ok (.aload_n 0, 1) := by decide +kernel
theorem dX6_about_105 : decode cX6_about 105 = .ok (.getfield 61, 3) := by decide +kernel
theorem dX6_about_108 : decode cX6_about 108 = .ok (.iload 5, 2) := by decide +kernel
theorem dX6_about_110 : decode cX6_about 110 = .ok (.baload, 1) := by decide +kernel
theorem dX6_about_111 : decode cX6_about 111 = .ok (.ifCond .ne 22, 3) := by decide +kernel
theorem dX6_about_114 : decode cX6_about 114 = .ok (.aload_n 0, 1) := by decide +kernel
theorem dX6_about_115 : decode cX6_about 115 = .ok (.aload_n 0, 1) := by decide +kernel
theorem dX6_about_116 : decode cX6_about 116 = .ok (.getfield 46, 3) := by decide +kernel
theorem dX6_about_119 : decode cX6_about 119 = .ok (.iload 5, 2) := by decide +kernel
theorem dX6_about_121 : decode cX6_about 121 = .ok (.iaload, 1) := by decide +kernel
theorem dX6_about_122 : decode cX6_about 122 = .ok (.invokevirtual 87, 3) := by decide +kernel
theorem dX6_about_125 : decode cX6_about 125 = .ok (.iload_n 3, 1) := by decide +kernel
theorem dX6_about_126 : decode cX6_about 126 = .ok (.if_icmp .ne 7, 3) := by decide +kernel
theorem dX6_about_129 : decode cX6_about 129 = .ok (.iconst 1, 1) := by decide +kernel
theorem dX6_about_130 : decode cX6_about 130 = .ok (.goto 4, 3) := by decide +kernel
theorem dX6_about_133 : decode cX6_about 133 = .ok (.iconst 0, 1) := by decide +kernel
theorem dX6_about_134 : decode cX6_about 134 = .ok (.iadd, 1) := by decide +kernel
theorem dX6_about_135 : decode cX6_about 135 = .ok (.istore 4, 2) := by decide +kernel
theorem dX6_about_137 : decode cX6_about 137 = .ok (.iinc 5 1, 3) := by decide +kernel
theorem dX6_about_140 : decode cX6_about 140 = .ok (.goto (-47), 3) := by decide +kernel
theorem dX6_about_143 : decode cX6_about 143 = .ok (.iload 4, 2) := by decide +kernel
theorem dX6_about_145 : decode cX6_about 145 = .ok (.ireturn, 1) := by decide +kernel
theorem dX6_about_146 : decode cX6_about 146 = .ok (.iconst (-1), 1) := by decide +kernel
theorem dX6_about_147 : decode cX6_about 147 = .ok (.ireturn, 1) := by decide +kernel
theorem dX6_statistics_0 : decode cX6_statistics 0 = .ok (.aload_n 0, 1) := by decide +kernel
theorem dX6_statistics_1 : decode cX6_statistics 1 = .ok (.iconst 0, 1) := by decide +kernel
theorem dX6_statistics_2 : decode cX6_statistics 2 = .ok (.putfield 78, 3) := by decide +kernel
theorem dX6_statistics_5 : decode cX6_statistics 5 = .ok (.iload_n 1, 1) := by decide +kernel
theorem dX6_statistics_6 : decode cX6_statistics 6 = .ok (.invokestatic 91, 3) := by decide +kernel
theorem dX6_statistics_9 : decode cX6_statistics 9 = .ok (.ifCond .ne 5, 3) := by decide +kernel
theorem dX6_statistics_12 : decode cX6_statistics 12 = .ok (.iconst (-1), 1) := by decide +kernel
theorem dX6_statistics_13 : decode cX6_statistics 13 = .ok (.ireturn, 1) := by decide +kernel
theorem dX6_statistics_14 : decode cX6_statistics 14 = .ok (.iconst 0, 1) := by decide +kernel
theorem dX6_statistics_15 : decode cX6_statistics 15 = .ok (.istore 6, 2) := by decide +kernel
theorem dX6_statistics_17 : decode cX6_statistics 17 = .ok (.iconst 1, 1) := by decide +kernel
theorem dX6_statistics_18 : decode cX6_statistics 18 = .ok (.istore 7, 2) := by decide +kernel
theorem dX6_statistics_20 : decode cX6_statistics 20 = .ok (.iload 7, 2) := by decide +kernel
theorem dX6_statistics_22 : decode cX6_statistics 22 = .ok (.aload_n 0, 1) := by decide +kernel
theorem dX6_statistics_23 : decode cX6_statistics 23 = .ok (.getfield 116, 3) := by decide +kernel
theorem dX6_statistics_26 : decode cX6_statistics 26 = .ok (.if_icmp .gt 55, 3) := by decide +kernel
theorem dX6_statistics_29 : decode cX6_statistics 29 = .ok (.iload 6, 2) := by decide +kernel
theorem dX6_statistics_31 : decode cX6_statistics 31 = .ok (.aload_n 0, 1) := by decide +kernel
theorem dX6_statistics_32 : decode cX6_statistics 32 = .ok (.getfield 49, 3) := by decide +kernel
theorem dX6_statistics_35 : decode cX6_statistics 35 = .ok (.iload 7, 2) := by decide +kernel
theorem dX6_statistics_37 : decode cX6_statistics 37 = .ok (.iaload, 1) := by decide +kernel
theorem dX6_statistics_38 : decode cX6_statistics 38 = .ok (.iload_n 1, 1) := by decide +kernel
theorem dX6_statistics_39 : decode cX6_statistics 39 = .ok (.if_icmp .ne 32, 3) := by decide +kernel
theorem dX6_statistics_42 : decode cX6_statistics 42 = .ok (.aload_n 0, 1) := by decide +kernel
theorem dX6_statistics_43 : decode cX6_statistics 43 = .ok (.getfield 55, 3) := by decide +kernel
theorem dX6_statistics_46 : decode cX6_statistics 46 = .ok (.iload 7, 2) := by decide +kernel
theorem dX6_statistics_48 : decode cX6_statistics 48 = .ok (.laload, 1) := by decide +kernel
theorem dX6_statistics_49 : decode cX6_statistics 49 = .ok (.lload_n 2, 1) := by decide +kernel
theorem dX6_statistics_50 : decode cX6_statistics 50 = .ok (.lcmp, 1) := by decide +kernel
theorem dX6_statistics_51 : decode cX6_statistics 51 = .ok (.ifCond .lt 20, 3) := by decide +kernel
theorem dX6_statistics_54 : decode cX6_statistics 54 = .ok (.aload_n 0, 1) := by decide +kernel
theorem dX6_statistics_55 : decode cX6_statistics 55 = .ok (.getfield 55, 3) := by decide +kernel
theorem dX6_statistics_58 : decode cX6_statistics 58 = .ok (.iload 7, 2) := by decide +kernel
theorem dX6_statistics_60 : decode cX6_statistics 60 = .ok (.laload, 1) := by decide +kernel
theorem dX6_statistics_61 : decode cX6_statistics 61 = .ok (.lload 4, 2) := by decide +kernel
theorem dX6_statistics_63 : decode cX6_statistics 63 = .ok (.lcmp, 1) := by decide +kernel
theorem dX6_statistics_64 : decode cX6_statistics 64 = .ok (.ifCond .gt 7, 3) := by decide +kernel
theorem dX6_statistics_67 : decode cX6_statistics 67 = .ok (.iconst 1, 1) := by decide +kernel
theorem dX6_statistics_68 : decode cX6_statistics 68 = .ok (.goto 4, 3) := by decide +kernel
theorem dX6_statistics_71 : decode cX6_statistics 71 = .ok (.iconst 0, 1) := by decide +kernel
theorem dX6_statistics_72 : decode cX6_statistics 72 = .ok (.iadd, 1) := by decide +kernel
theorem dX6_statistics_73 : decode cX6_statistics 73 = .ok (.istore 6, 2) := by decide +kernel
theorem dX6_statistics_75 : decode cX6_statistics 75 = .ok (.iinc 7 1, 3) := by decide +kernel
theorem dX6_statistics_78 : decode cX6_statistics 78 = .ok (.goto (-58), 3) := by decide +kernel
theorem dX6_statistics_81 : decode cX6_statistics 81 = .ok (.iload 6, 2) := by decide +kernel
theorem dX6_statistics_83 : decode cX6_statistics 83 = .ok (.ireturn, 1) := by decide +kernel
