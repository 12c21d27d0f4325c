/-! the rows: printed by a program -/
theorem zr_13_0 : z_co 13 0 = (.aload_n 1, 1, 0, 0, []) := rfl
theorem zr_13_1 : z_co 13 1 = (.getfield 50, 3, 10, 8, [169]) := rfl
theorem zr_13_4 : z_co 13 4 = (.ifCond .eq 10, 3, 0, 0, []) := rfl
theorem zr_13_7 : z_co 13 7 = (.aload_n 1, 1, 0, 0, []) := rfl
theorem zr_13_8 : z_co 13 8 = (.getfield 55, 3, 10, 7, [165]) := rfl
theorem zr_13_11 : z_co 13 11 = (.ifCond .ne 5, 3, 0, 0, []) := rfl
theorem zr_13_14 : z_co 13 14 = (.iconst 0, 1, 0, 0, []) := rfl
theorem zr_13_15 : z_co 13 15 = (.ireturn, 1, 0, 0, []) := rfl
theorem zr_13_16 : z_co 13 16 = (.iconst 0, 1, 0, 0, []) := rfl
theorem zr_13_17 : z_co 13 17 = (.istore_n 3, 1, 0, 0, []) := rfl
theorem zr_13_18 : z_co 13 18 = (.iconst 0, 1, 0, 0, []) := rfl
theorem zr_13_19 : z_co 13 19 = (.istore 4, 2, 0, 0, []) := rfl
theorem zr_13_21 : z_co 13 21 = (.iload 4, 2, 0, 0, []) := rfl
theorem zr_13_23 : z_co 13 23 = (.bipush 6, 2, 0, 0, []) := rfl
theorem zr_13_25 : z_co 13 25 = (.if_icmp .ge 43, 3, 0, 0, []) := rfl
theorem zr_13_28 : z_co 13 28 = (.aload_n 0, 1, 0, 0, []) := rfl
theorem zr_13_29 : z_co 13 29 = (.aload_n 1, 1, 0, 0, []) := rfl
theorem zr_13_30 : z_co 13 30 = (.getfield 50, 3, 10, 8, [169]) := rfl
theorem zr_13_33 : z_co 13 33 = (.invokevirtual 58, 3, 14, 0, [1135, 1137, 45]) := rfl
theorem zr_13_36 : z_co 13 36 = (.istore 5, 2, 0, 0, []) := rfl
theorem zr_13_38 : z_co 13 38 = (.aload_n 0, 1, 0, 0, []) := rfl
theorem zr_13_39 : z_co 13 39 = (.aload_n 1, 1, 0, 0, []) := rfl
theorem zr_13_40 : z_co 13 40 = (.getfield 55, 3, 10, 7, [165]) := rfl
theorem zr_13_43 : z_co 13 43 = (.invokevirtual 58, 3, 14, 0, [1135, 1137, 45]) := rfl
theorem zr_13_46 : z_co 13 46 = (.istore 6, 2, 0, 0, []) := rfl
theorem zr_13_48 : z_co 13 48 = (.aload_n 2, 1, 0, 0, []) := rfl
theorem zr_13_49 : z_co 13 49 = (.iload 5, 2, 0, 0, []) := rfl
theorem zr_13_51 : z_co 13 51 = (.iload 6, 2, 0, 0, []) := rfl
theorem zr_13_53 : z_co 13 53 = (.invokevirtual 62, 3, 59, 0, [1140, 967, 968]) := rfl
theorem zr_13_56 : z_co 13 56 = (.ifCond .eq 6, 3, 0, 0, []) := rfl
theorem zr_13_59 : z_co 13 59 = (.iinc 3 1, 3, 0, 0, []) := rfl
theorem zr_13_62 : z_co 13 62 = (.iinc 4 1, 3, 0, 0, []) := rfl
theorem zr_13_65 : z_co 13 65 = (.goto (-44), 3, 0, 0, []) := rfl
theorem zr_13_68 : z_co 13 68 = (.iload_n 3, 1, 0, 0, []) := rfl
theorem zr_13_69 : z_co 13 69 = (.ireturn, 1, 0, 0, []) := rfl
theorem zr_14_0 : z_co 14 0 = (.aload_n 0, 1, 0, 0, []) := rfl
theorem zr_14_1 : z_co 14 1 = (.aload_n 0, 1, 0, 0, []) := rfl
theorem zr_14_2 : z_co 14 2 = (.getfield 16, 3, 2, 2, [432]) := rfl
theorem zr_14_5 : z_co 14 5 = (.sipush 1103, 3, 0, 0, []) := rfl
theorem zr_14_8 : z_co 14 8 = (.imul, 1, 0, 0, []) := rfl
theorem zr_14_9 : z_co 14 9 = (.sipush 12345, 3, 0, 0, []) := rfl
theorem zr_14_12 : z_co 14 12 = (.iadd, 1, 0, 0, []) := rfl
theorem zr_14_13 : z_co 14 13 = (.ldc 66, 2, 1000003, 0, [1139]) := rfl
theorem zr_14_15 : z_co 14 15 = (.irem, 1, 0, 0, []) := rfl
theorem zr_14_16 : z_co 14 16 = (.putfield 16, 3, 2, 2, [432]) := rfl
theorem zr_14_19 : z_co 14 19 = (.iload_n 1, 1, 0, 0, []) := rfl
theorem zr_14_20 : z_co 14 20 = (.ifCond .le 12, 3, 0, 0, []) := rfl
theorem zr_14_23 : z_co 14 23 = (.aload_n 0, 1, 0, 0, []) := rfl
theorem zr_14_24 : z_co 14 24 = (.getfield 16, 3, 2, 2, [432]) := rfl
theorem zr_14_27 : z_co 14 27 = (.iload_n 1, 1, 0, 0, []) := rfl
theorem zr_14_28 : z_co 14 28 = (.irem, 1, 0, 0, []) := rfl
theorem zr_14_29 : z_co 14 29 = (.goto 4, 3, 0, 0, []) := rfl
theorem zr_14_32 : z_co 14 32 = (.iconst 0, 1, 0, 0, []) := rfl
theorem zr_14_33 : z_co 14 33 = (.ireturn, 1, 0, 0, []) := rfl
theorem zr_15_0 : z_co 15 0 = (.aload_n 0, 1, 0, 0, []) := rfl
theorem zr_15_1 : z_co 15 1 = (.invokespecial 3, 3, 1000, 0, [272, 131, 132]) := rfl
theorem zr_15_4 : z_co 15 4 = (.aload_n 0, 1, 0, 0, []) := rfl
theorem zr_15_5 : z_co 15 5 = (.bipush 9, 2, 0, 0, []) := rfl
theorem zr_15_7 : z_co 15 7 = (.newarray .int, 2, 0, 0, []) := rfl
theorem zr_15_9 : z_co 15 9 = (.putfield 11, 3, 3, 0, [273]) := rfl
theorem zr_15_12 : z_co 15 12 = (.aload_n 0, 1, 0, 0, []) := rfl
theorem zr_15_13 : z_co 15 13 = (.bipush 40, 2, 0, 0, []) := rfl
theorem zr_15_15 : z_co 15 15 = (.newarray .long, 2, 0, 0, []) := rfl
theorem zr_15_17 : z_co 15 17 = (.putfield 15, 3, 3, 1, [274]) := rfl
theorem zr_15_20 : z_co 15 20 = (.return_, 1, 0, 0, []) := rfl
theorem zr_16_0 : z_co 16 0 = (.aload_n 1, 1, 0, 0, []) := rfl
theorem zr_16_1 : z_co 16 1 = (.iload_n 2, 1, 0, 0, []) := rfl
theorem zr_16_2 : z_co 16 2 = (.invokevirtual 19, 3, 76, 0, [793, 557, 558]) := rfl
theorem zr_16_5 : z_co 16 5 = (.ifCond .eq 11, 3, 0, 0, []) := rfl
theorem zr_16_8 : z_co 16 8 = (.aload_n 1, 1, 0, 0, []) := rfl
theorem zr_16_9 : z_co 16 9 = (.iload_n 3, 1, 0, 0, []) := rfl
theorem zr_16_10 : z_co 16 10 = (.invokevirtual 25, 3, 75, 0, [794, 524, 525]) := rfl
theorem zr_16_13 : z_co 16 13 = (.ifCond .ne 5, 3, 0, 0, []) := rfl
theorem zr_16_16 : z_co 16 16 = (.iconst 0, 1, 0, 0, []) := rfl
theorem zr_16_17 : z_co 16 17 = (.ireturn, 1, 0, 0, []) := rfl
theorem zr_16_18 : z_co 16 18 = (.aload_n 0, 1, 0, 0, []) := rfl
theorem zr_16_19 : z_co 16 19 = (.getfield 11, 3, 3, 0, [273]) := rfl
theorem zr_16_22 : z_co 16 22 = (.iconst 0, 1, 0, 0, []) := rfl
theorem zr_16_23 : z_co 16 23 = (.iload_n 2, 1, 0, 0, []) := rfl
theorem zr_16_24 : z_co 16 24 = (.iastore, 1, 0, 0, []) := rfl
theorem zr_16_25 : z_co 16 25 = (.aload_n 0, 1, 0, 0, []) := rfl
theorem zr_16_26 : z_co 16 26 = (.getfield 11, 3, 3, 0, [273]) := rfl
theorem zr_16_29 : z_co 16 29 = (.iconst 1, 1, 0, 0, []) := rfl
theorem zr_16_30 : z_co 16 30 = (.iload 4, 2, 0, 0, []) := rfl
theorem zr_16_32 : z_co 16 32 = (.iastore, 1, 0, 0, []) := rfl
theorem zr_16_33 : z_co 16 33 = (.aload_n 0, 1, 0, 0, []) := rfl
theorem zr_16_34 : z_co 16 34 = (.getfield 11, 3, 3, 0, [273]) := rfl
theorem zr_16_37 : z_co 16 37 = (.iconst 2, 1, 0, 0, []) := rfl
theorem zr_16_38 : z_co 16 38 = (.aload_n 1, 1, 0, 0, []) := rfl
theorem zr_16_39 : z_co 16 39 = (.getfield 28, 3, 10, 0, [144]) := rfl
theorem zr_16_42 : z_co 16 42 = (.iconst 0, 1, 0, 0, []) := rfl
theorem zr_16_43 : z_co 16 43 = (.aaload, 1, 0, 0, []) := rfl
theorem zr_16_44 : z_co 16 44 = (.iload_n 3, 1, 0, 0, []) := rfl
theorem zr_16_45 : z_co 16 45 = (.iaload, 1, 0, 0, []) := rfl
theorem zr_16_46 : z_co 16 46 = (.iastore, 1, 0, 0, []) := rfl
theorem zr_16_47 : z_co 16 47 = (.aload_n 0, 1, 0, 0, []) := rfl
theorem zr_16_48 : z_co 16 48 = (.getfield 11, 3, 3, 0, [273]) := rfl
theorem zr_16_51 : z_co 16 51 = (.iconst 3, 1, 0, 0, []) := rfl
theorem zr_16_52 : z_co 16 52 = (.iload 5, 2, 0, 0, []) := rfl
theorem zr_16_54 : z_co 16 54 = (.iastore, 1, 0, 0, []) := rfl
theorem zr_16_55 : z_co 16 55 = (.aload_n 0, 1, 0, 0, []) := rfl
theorem zr_16_56 : z_co 16 56 = (.getfield 11, 3, 3, 0, [273]) := rfl
theorem zr_16_59 : z_co 16 59 = (.iconst 4, 1, 0, 0, []) := rfl
theorem zr_16_60 : z_co 16 60 = (.aload_n 1, 1, 0, 0, []) := rfl
theorem zr_16_61 : z_co 16 61 = (.getfield 32, 3, 10, 1, [149]) := rfl
theorem zr_16_64 : z_co 16 64 = (.iconst 1, 1, 0, 0, []) := rfl
theorem zr_16_65 : z_co 16 65 = (.aaload, 1, 0, 0, []) := rfl
theorem zr_16_66 : z_co 16 66 = (.iload_n 2, 1, 0, 0, []) := rfl
theorem zr_16_67 : z_co 16 67 = (.iaload, 1, 0, 0, []) := rfl
theorem zr_16_68 : z_co 16 68 = (.iastore, 1, 0, 0, []) := rfl
theorem zr_16_69 : z_co 16 69 = (.aload_n 0, 1, 0, 0, []) := rfl
theorem zr_16_70 : z_co 16 70 = (.getfield 11, 3, 3, 0, [273]) := rfl
theorem zr_16_73 : z_co 16 73 = (.iconst 5, 1, 0, 0, []) := rfl
theorem zr_16_74 : z_co 16 74 = (.aload_n 1, 1, 0, 0, []) := rfl
theorem zr_16_75 : z_co 16 75 = (.getfield 32, 3, 10, 1, [149]) := rfl
theorem zr_16_78 : z_co 16 78 = (.iconst 0, 1, 0, 0, []) := rfl
theorem zr_16_79 : z_co 16 79 = (.aaload, 1, 0, 0, []) := rfl
theorem zr_16_80 : z_co 16 80 = (.iload_n 2, 1, 0, 0, []) := rfl
theorem zr_16_81 : z_co 16 81 = (.iaload, 1, 0, 0, []) := rfl
theorem zr_16_82 : z_co 16 82 = (.iastore, 1, 0, 0, []) := rfl
theorem zr_16_83 : z_co 16 83 = (.aload_n 0, 1, 0, 0, []) := rfl
theorem zr_16_84 : z_co 16 84 = (.getfield 11, 3, 3, 0, [273]) := rfl
theorem zr_16_87 : z_co 16 87 = (.bipush 6, 2, 0, 0, []) := rfl
theorem zr_16_89 : z_co 16 89 = (.aload_n 1, 1, 0, 0, []) := rfl
theorem zr_16_90 : z_co 16 90 = (.getfield 35, 3, 10, 2, [153]) := rfl
theorem zr_16_93 : z_co 16 93 = (.iconst 0, 1, 0, 0, []) := rfl
theorem zr_16_94 : z_co 16 94 = (.iaload, 1, 0, 0, []) := rfl
theorem zr_16_95 : z_co 16 95 = (.iastore, 1, 0, 0, []) := rfl
theorem zr_16_96 : z_co 16 96 = (.aload_n 0, 1, 0, 0, []) := rfl
theorem zr_16_97 : z_co 16 97 = (.getfield 11, 3, 3, 0, [273]) := rfl
theorem zr_16_100 : z_co 16 100 = (.bipush 7, 2, 0, 0, []) := rfl
theorem zr_16_102 : z_co 16 102 = (.aload_n 1, 1, 0, 0, []) := rfl
theorem zr_16_103 : z_co 16 103 = (.getfield 28, 3, 10, 0, [144]) := rfl
theorem zr_16_106 : z_co 16 106 = (.iconst 2, 1, 0, 0, []) := rfl
theorem zr_16_107 : z_co 16 107 = (.aaload, 1, 0, 0, []) := rfl
theorem zr_16_108 : z_co 16 108 = (.iload_n 3, 1, 0, 0, []) := rfl
theorem zr_16_109 : z_co 16 109 = (.iaload, 1, 0, 0, []) := rfl
theorem zr_16_110 : z_co 16 110 = (.iastore, 1, 0, 0, []) := rfl
theorem zr_16_111 : z_co 16 111 = (.aload_n 0, 1, 0, 0, []) := rfl
theorem zr_16_112 : z_co 16 112 = (.getfield 11, 3, 3, 0, [273]) := rfl
theorem zr_16_115 : z_co 16 115 = (.bipush 8, 2, 0, 0, []) := rfl
theorem zr_16_117 : z_co 16 117 = (.aload_n 1, 1, 0, 0, []) := rfl
theorem zr_16_118 : z_co 16 118 = (.getfield 28, 3, 10, 0, [144]) := rfl
theorem zr_16_121 : z_co 16 121 = (.iconst 1, 1, 0, 0, []) := rfl
theorem zr_16_122 : z_co 16 122 = (.aaload, 1, 0, 0, []) := rfl
theorem zr_16_123 : z_co 16 123 = (.iload_n 3, 1, 0, 0, []) := rfl
theorem zr_16_124 : z_co 16 124 = (.iaload, 1, 0, 0, []) := rfl
theorem zr_16_125 : z_co 16 125 = (.iastore, 1, 0, 0, []) := rfl
theorem zr_16_126 : z_co 16 126 = (.aload_n 1, 1, 0, 0, []) := rfl
theorem zr_16_127 : z_co 16 127 = (.invokevirtual 38, 3, 85, 0, [795, 796, 797]) := rfl
theorem zr_16_130 : z_co 16 130 = (.astore 6, 2, 0, 0, []) := rfl
theorem zr_16_132 : z_co 16 132 = (.aload_n 0, 1, 0, 0, []) := rfl
theorem zr_16_133 : z_co 16 133 = (.aload_n 0, 1, 0, 0, []) := rfl
theorem zr_16_134 : z_co 16 134 = (.getfield 11, 3, 3, 0, [273]) := rfl
theorem zr_16_137 : z_co 16 137 = (.bipush 8, 2, 0, 0, []) := rfl
theorem zr_16_139 : z_co 16 139 = (.iaload, 1, 0, 0, []) := rfl
theorem zr_16_140 : z_co 16 140 = (.i2l, 1, 0, 0, []) := rfl
theorem zr_16_141 : z_co 16 141 = (.putfield 42, 3, 3, 6, [279]) := rfl
theorem zr_16_144 : z_co 16 144 = (.aload_n 0, 1, 0, 0, []) := rfl
theorem zr_16_145 : z_co 16 145 = (.iconst 0, 1, 0, 0, []) := rfl
theorem zr_16_146 : z_co 16 146 = (.putfield 46, 3, 3, 5, [278]) := rfl
theorem zr_16_149 : z_co 16 149 = (.aload 6, 2, 0, 0, []) := rfl
theorem zr_16_151 : z_co 16 151 = (.ifnonnull 7, 3, 0, 0, []) := rfl
theorem zr_16_154 : z_co 16 154 = (.iconst 0, 1, 0, 0, []) := rfl
theorem zr_16_155 : z_co 16 155 = (.goto 11, 3, 0, 0, []) := rfl
theorem zr_16_158 : z_co 16 158 = (.aload 6, 2, 0, 0, []) := rfl
theorem zr_16_160 : z_co 16 160 = (.getfield 50, 3, 4, 2, [764]) := rfl
theorem zr_16_163 : z_co 16 163 = (.arraylength, 1, 0, 0, []) := rfl
theorem zr_16_164 : z_co 16 164 = (.iconst 1, 1, 0, 0, []) := rfl
theorem zr_16_165 : z_co 16 165 = (.isub, 1, 0, 0, []) := rfl
theorem zr_16_166 : z_co 16 166 = (.istore 7, 2, 0, 0, []) := rfl
theorem zr_16_168 : z_co 16 168 = (.iconst 0, 1, 0, 0, []) := rfl
theorem zr_16_169 : z_co 16 169 = (.istore 8, 2, 0, 0, []) := rfl
theorem zr_16_171 : z_co 16 171 = (.iload 8, 2, 0, 0, []) := rfl
theorem zr_16_173 : z_co 16 173 = (.iload 7, 2, 0, 0, []) := rfl
theorem zr_16_175 : z_co 16 175 = (.if_icmp .ge 33, 3, 0, 0, []) := rfl
theorem zr_16_178 : z_co 16 178 = (.aload_n 0, 1, 0, 0, []) := rfl
theorem zr_16_179 : z_co 16 179 = (.aload 6, 2, 0, 0, []) := rfl
theorem zr_16_181 : z_co 16 181 = (.aload 6, 2, 0, 0, []) := rfl
theorem zr_16_183 : z_co 16 183 = (.getfield 50, 3, 4, 2, [764]) := rfl
theorem zr_16_186 : z_co 16 186 = (.iload 8, 2, 0, 0, []) := rfl
theorem zr_16_188 : z_co 16 188 = (.iaload, 1, 0, 0, []) := rfl
theorem zr_16_189 : z_co 16 189 = (.aload 6, 2, 0, 0, []) := rfl
theorem zr_16_191 : z_co 16 191 = (.getfield 50, 3, 4, 2, [764]) := rfl
theorem zr_16_194 : z_co 16 194 = (.iload 8, 2, 0, 0, []) := rfl
theorem zr_16_196 : z_co 16 196 = (.iconst 1, 1, 0, 0, []) := rfl
theorem zr_16_197 : z_co 16 197 = (.iadd, 1, 0, 0, []) := rfl
theorem zr_16_198 : z_co 16 198 = (.iaload, 1, 0, 0, []) := rfl
theorem zr_16_199 : z_co 16 199 = (.invokevirtual 55, 3, 17, 0, [799, 801, 22]) := rfl
theorem zr_16_202 : z_co 16 202 = (.iinc 8 1, 3, 0, 0, []) := rfl
theorem zr_16_205 : z_co 16 205 = (.goto (-34), 3, 0, 0, []) := rfl
theorem zr_16_208 : z_co 16 208 = (.aload_n 0, 1, 0, 0, []) := rfl
theorem zr_16_209 : z_co 16 209 = (.getfield 46, 3, 3, 5, [278]) := rfl
theorem zr_16_212 : z_co 16 212 = (.ifCond .ne 22, 3, 0, 0, []) := rfl
theorem zr_16_215 : z_co 16 215 = (.aload_n 0, 1, 0, 0, []) := rfl
theorem zr_16_216 : z_co 16 216 = (.getfield 42, 3, 3, 6, [279]) := rfl
theorem zr_16_219 : z_co 16 219 = (.aload_n 0, 1, 0, 0, []) := rfl
theorem zr_16_220 : z_co 16 220 = (.getfield 11, 3, 3, 0, [273]) := rfl
theorem zr_16_223 : z_co 16 223 = (.iconst 4, 1, 0, 0, []) := rfl
theorem zr_16_224 : z_co 16 224 = (.iaload, 1, 0, 0, []) := rfl
theorem zr_16_225 : z_co 16 225 = (.i2l, 1, 0, 0, []) := rfl
theorem zr_16_226 : z_co 16 226 = (.lcmp, 1, 0, 0, []) := rfl
theorem zr_16_227 : z_co 16 227 = (.ifCond .lt 7, 3, 0, 0, []) := rfl
theorem zr_16_230 : z_co 16 230 = (.iconst 1, 1, 0, 0, []) := rfl
theorem zr_16_231 : z_co 16 231 = (.goto 4, 3, 0, 0, []) := rfl
theorem zr_16_234 : z_co 16 234 = (.iconst 0, 1, 0, 0, []) := rfl
theorem zr_16_235 : z_co 16 235 = (.ireturn, 1, 0, 0, []) := rfl
theorem zr_17_0 : z_co 17 0 = (.aload_n 0, 1, 0, 0, []) := rfl
theorem zr_17_1 : z_co 17 1 = (.iconst 0, 1, 0, 0, []) := rfl
theorem zr_17_2 : z_co 17 2 = (.putfield 59, 3, 3, 2, [275]) := rfl
theorem zr_17_5 : z_co 17 5 = (.aload_n 0, 1, 0, 0, []) := rfl
theorem zr_17_6 : z_co 17 6 = (.iconst 0, 1, 0, 0, []) := rfl
theorem zr_17_7 : z_co 17 7 = (.putfield 63, 3, 3, 4, [277]) := rfl
theorem zr_17_10 : z_co 17 10 = (.aload_n 0, 1, 0, 0, []) := rfl
theorem zr_17_11 : z_co 17 11 = (.iload_n 2, 1, 0, 0, []) := rfl
theorem zr_17_12 : z_co 17 12 = (.putfield 66, 3, 3, 3, [276]) := rfl
theorem zr_17_15 : z_co 17 15 = (.iload_n 2, 1, 0, 0, []) := rfl
theorem zr_17_16 : z_co 17 16 = (.istore 4, 2, 0, 0, []) := rfl
theorem zr_17_18 : z_co 17 18 = (.iload 4, 2, 0, 0, []) := rfl
theorem zr_17_20 : z_co 17 20 = (.iload_n 3, 1, 0, 0, []) := rfl
theorem zr_17_21 : z_co 17 21 = (.if_icmp .ge 54, 3, 0, 0, []) := rfl
theorem zr_17_24 : z_co 17 24 = (.iload 4, 2, 0, 0, []) := rfl
theorem zr_17_26 : z_co 17 26 = (.aload_n 1, 1, 0, 0, []) := rfl
theorem zr_17_27 : z_co 17 27 = (.getfield 69, 3, 4, 0, [760]) := rfl
theorem zr_17_30 : z_co 17 30 = (.arraylength, 1, 0, 0, []) := rfl
theorem zr_17_31 : z_co 17 31 = (.if_icmp .ge 44, 3, 0, 0, []) := rfl
theorem zr_17_34 : z_co 17 34 = (.aload_n 0, 1, 0, 0, []) := rfl
theorem zr_17_35 : z_co 17 35 = (.getfield 63, 3, 3, 4, [277]) := rfl
theorem zr_17_38 : z_co 17 38 = (.ifCond .ne 37, 3, 0, 0, []) := rfl
theorem zr_17_41 : z_co 17 41 = (.iload 4, 2, 0, 0, []) := rfl
theorem zr_17_43 : z_co 17 43 = (.aload_n 0, 1, 0, 0, []) := rfl
theorem zr_17_44 : z_co 17 44 = (.getfield 66, 3, 3, 3, [276]) := rfl
theorem zr_17_47 : z_co 17 47 = (.if_icmp .lt 22, 3, 0, 0, []) := rfl
theorem zr_17_50 : z_co 17 50 = (.aload_n 0, 1, 0, 0, []) := rfl
theorem zr_17_51 : z_co 17 51 = (.aload_n 1, 1, 0, 0, []) := rfl
theorem zr_17_52 : z_co 17 52 = (.getfield 69, 3, 4, 0, [760]) := rfl
theorem zr_17_55 : z_co 17 55 = (.iload 4, 2, 0, 0, []) := rfl
theorem zr_17_57 : z_co 17 57 = (.iaload, 1, 0, 0, []) := rfl
theorem zr_17_58 : z_co 17 58 = (.aload_n 1, 1, 0, 0, []) := rfl
theorem zr_17_59 : z_co 17 59 = (.getfield 72, 3, 4, 1, [762]) := rfl
theorem zr_17_62 : z_co 17 62 = (.iload 4, 2, 0, 0, []) := rfl
theorem zr_17_64 : z_co 17 64 = (.iaload, 1, 0, 0, []) := rfl
theorem zr_17_65 : z_co 17 65 = (.iload_n 3, 1, 0, 0, []) := rfl
theorem zr_17_66 : z_co 17 66 = (.invokevirtual 75, 3, 18, 0, [803, 805, 23]) := rfl
theorem zr_17_69 : z_co 17 69 = (.iinc 4 1, 3, 0, 0, []) := rfl
theorem zr_17_72 : z_co 17 72 = (.goto (-54), 3, 0, 0, []) := rfl
theorem zr_17_75 : z_co 17 75 = (.return_, 1, 0, 0, []) := rfl
theorem zr_18_0 : z_co 18 0 = (.iload_n 1, 1, 0, 0, []) := rfl
theorem zr_18_1 : z_co 18 1 = (.tableswitch 191 0 14 #[75, 84, 191, 191, 191, 191, 191, 191, 191, 117, 130, 139, 148, 172, 183], 75, 0, 0, []) := rfl
theorem zr_18_76 : z_co 18 76 = (.aload_n 0, 1, 0, 0, []) := rfl
theorem zr_18_77 : z_co 18 77 = (.iload_n 2, 1, 0, 0, []) := rfl
theorem zr_18_78 : z_co 18 78 = (.i2l, 1, 0, 0, []) := rfl
theorem zr_18_79 : z_co 18 79 = (.invokevirtual 79, 3, 21, 0, [807, 809, 24]) := rfl
theorem zr_18_82 : z_co 18 82 = (.goto 135, 3, 0, 0, []) := rfl
theorem zr_18_85 : z_co 18 85 = (.aload_n 0, 1, 0, 0, []) := rfl
theorem zr_18_86 : z_co 18 86 = (.iload_n 2, 1, 0, 0, []) := rfl
theorem zr_18_87 : z_co 18 87 = (.iconst 0, 1, 0, 0, []) := rfl
theorem zr_18_88 : z_co 18 88 = (.aload_n 0, 1, 0, 0, []) := rfl
theorem zr_18_89 : z_co 18 89 = (.getfield 11, 3, 3, 0, [273]) := rfl
theorem zr_18_92 : z_co 18 92 = (.arraylength, 1, 0, 0, []) := rfl
theorem zr_18_93 : z_co 18 93 = (.iconst 1, 1, 0, 0, []) := rfl
theorem zr_18_94 : z_co 18 94 = (.isub, 1, 0, 0, []) := rfl
theorem zr_18_95 : z_co 18 95 = (.invokestatic 83, 3, 133, 1, [813, 497]) := rfl
theorem zr_18_98 : z_co 18 98 = (.ifCond .eq 13, 3, 0, 0, []) := rfl
theorem zr_18_101 : z_co 18 101 = (.aload_n 0, 1, 0, 0, []) := rfl
theorem zr_18_102 : z_co 18 102 = (.getfield 11, 3, 3, 0, [273]) := rfl
theorem zr_18_105 : z_co 18 105 = (.iload_n 2, 1, 0, 0, []) := rfl
theorem zr_18_106 : z_co 18 106 = (.iaload, 1, 0, 0, []) := rfl
theorem zr_18_107 : z_co 18 107 = (.i2l, 1, 0, 0, []) := rfl
theorem zr_18_108 : z_co 18 108 = (.goto 4, 3, 0, 0, []) := rfl
theorem zr_18_111 : z_co 18 111 = (.lconst 0, 1, 0, 0, []) := rfl
theorem zr_18_112 : z_co 18 112 = (.invokevirtual 79, 3, 21, 0, [807, 809, 24]) := rfl
theorem zr_18_115 : z_co 18 115 = (.goto 102, 3, 0, 0, []) := rfl
theorem zr_18_118 : z_co 18 118 = (.aload_n 0, 1, 0, 0, []) := rfl
theorem zr_18_119 : z_co 18 119 = (.lconst 1, 1, 0, 0, []) := rfl
theorem zr_18_120 : z_co 18 120 = (.aload_n 0, 1, 0, 0, []) := rfl
theorem zr_18_121 : z_co 18 121 = (.invokevirtual 87, 3, 22, 0, [814, 816, 25]) := rfl
theorem zr_18_124 : z_co 18 124 = (.lsub, 1, 0, 0, []) := rfl
theorem zr_18_125 : z_co 18 125 = (.invokevirtual 79, 3, 21, 0, [807, 809, 24]) := rfl
theorem zr_18_128 : z_co 18 128 = (.goto 89, 3, 0, 0, []) := rfl
theorem zr_18_131 : z_co 18 131 = (.aload_n 0, 1, 0, 0, []) := rfl
theorem zr_18_132 : z_co 18 132 = (.iconst 1, 1, 0, 0, []) := rfl
theorem zr_18_133 : z_co 18 133 = (.iload_n 2, 1, 0, 0, []) := rfl
theorem zr_18_134 : z_co 18 134 = (.invokevirtual 91, 3, 19, 0, [818, 820, 26]) := rfl
theorem zr_18_137 : z_co 18 137 = (.goto 80, 3, 0, 0, []) := rfl
theorem zr_18_140 : z_co 18 140 = (.aload_n 0, 1, 0, 0, []) := rfl
theorem zr_18_141 : z_co 18 141 = (.iconst 0, 1, 0, 0, []) := rfl
theorem zr_18_142 : z_co 18 142 = (.iload_n 2, 1, 0, 0, []) := rfl
theorem zr_18_143 : z_co 18 143 = (.invokevirtual 91, 3, 19, 0, [818, 820, 26]) := rfl
theorem zr_18_146 : z_co 18 146 = (.goto 71, 3, 0, 0, []) := rfl
theorem zr_18_149 : z_co 18 149 = (.aload_n 0, 1, 0, 0, []) := rfl
theorem zr_18_150 : z_co 18 150 = (.aload_n 0, 1, 0, 0, []) := rfl
theorem zr_18_151 : z_co 18 151 = (.invokevirtual 87, 3, 22, 0, [814, 816, 25]) := rfl
theorem zr_18_154 : z_co 18 154 = (.lconst 0, 1, 0, 0, []) := rfl
theorem zr_18_155 : z_co 18 155 = (.lcmp, 1, 0, 0, []) := rfl
theorem zr_18_156 : z_co 18 156 = (.ifCond .ne 7, 3, 0, 0, []) := rfl
theorem zr_18_159 : z_co 18 159 = (.iload_n 3, 1, 0, 0, []) := rfl
theorem zr_18_160 : z_co 18 160 = (.goto 7, 3, 0, 0, []) := rfl
theorem zr_18_163 : z_co 18 163 = (.aload_n 0, 1, 0, 0, []) := rfl
theorem zr_18_164 : z_co 18 164 = (.getfield 66, 3, 3, 3, [276]) := rfl
theorem zr_18_167 : z_co 18 167 = (.putfield 66, 3, 3, 3, [276]) := rfl
theorem zr_18_170 : z_co 18 170 = (.goto 47, 3, 0, 0, []) := rfl
theorem zr_18_173 : z_co 18 173 = (.aload_n 0, 1, 0, 0, []) := rfl
theorem zr_18_174 : z_co 18 174 = (.aload_n 0, 1, 0, 0, []) := rfl
theorem zr_18_175 : z_co 18 175 = (.invokevirtual 87, 3, 22, 0, [814, 816, 25]) := rfl
theorem zr_18_178 : z_co 18 178 = (.putfield 42, 3, 3, 6, [279]) := rfl
theorem zr_18_181 : z_co 18 181 = (.goto 36, 3, 0, 0, []) := rfl
theorem zr_18_184 : z_co 18 184 = (.aload_n 0, 1, 0, 0, []) := rfl
theorem zr_18_185 : z_co 18 185 = (.iconst 1, 1, 0, 0, []) := rfl
theorem zr_18_186 : z_co 18 186 = (.putfield 46, 3, 3, 5, [278]) := rfl
theorem zr_18_189 : z_co 18 189 = (.goto 28, 3, 0, 0, []) := rfl
theorem zr_18_192 : z_co 18 192 = (.aload_n 0, 1, 0, 0, []) := rfl
theorem zr_18_193 : z_co 18 193 = (.invokevirtual 87, 3, 22, 0, [814, 816, 25]) := rfl
theorem zr_18_196 : z_co 18 196 = (.lstore 4, 2, 0, 0, []) := rfl
theorem zr_18_198 : z_co 18 198 = (.aload_n 0, 1, 0, 0, []) := rfl
theorem zr_18_199 : z_co 18 199 = (.invokevirtual 87, 3, 22, 0, [814, 816, 25]) := rfl
theorem zr_18_202 : z_co 18 202 = (.lstore 6, 2, 0, 0, []) := rfl
theorem zr_18_204 : z_co 18 204 = (.aload_n 0, 1, 0, 0, []) := rfl
theorem zr_18_205 : z_co 18 205 = (.aload_n 0, 1, 0, 0, []) := rfl
theorem zr_18_206 : z_co 18 206 = (.iload_n 1, 1, 0, 0, []) := rfl
theorem zr_18_207 : z_co 18 207 = (.lload 6, 2, 0, 0, []) := rfl
theorem zr_18_209 : z_co 18 209 = (.lload 4, 2, 0, 0, []) := rfl
theorem zr_18_211 : z_co 18 211 = (.invokevirtual 95, 3, 20, 0, [822, 824, 27]) := rfl
theorem zr_18_214 : z_co 18 214 = (.invokevirtual 79, 3, 21, 0, [807, 809, 24]) := rfl
theorem zr_18_217 : z_co 18 217 = (.return_, 1, 0, 0, []) := rfl
