/-! the rows: printed by a program -/
theorem zr_196_0 : z_co 196 0 = (.aload_n 0, 1, 0, 0, []) := rfl
theorem zr_196_1 : z_co 196 1 = (.iconst 0, 1, 0, 0, []) := rfl
theorem zr_196_2 : z_co 196 2 = (.putfield 115, 3, 12, 0, [1190]) := rfl
theorem zr_196_5 : z_co 196 5 = (.aload_n 0, 1, 0, 0, []) := rfl
theorem zr_196_6 : z_co 196 6 = (.getfield 13, 3, 12, 3, [1193]) := rfl
theorem zr_196_9 : z_co 196 9 = (.iconst 2, 1, 0, 0, []) := rfl
theorem zr_196_10 : z_co 196 10 = (.iaload, 1, 0, 0, []) := rfl
theorem zr_196_11 : z_co 196 11 = (.bipush 6, 2, 0, 0, []) := rfl
theorem zr_196_13 : z_co 196 13 = (.if_icmp .ne 15, 3, 0, 0, []) := rfl
theorem zr_196_16 : z_co 196 16 = (.aload_n 0, 1, 0, 0, []) := rfl
theorem zr_196_17 : z_co 196 17 = (.iconst 0, 1, 0, 0, []) := rfl
theorem zr_196_18 : z_co 196 18 = (.putfield 174, 3, 12, 8, [1198]) := rfl
theorem zr_196_21 : z_co 196 21 = (.aload_n 0, 1, 0, 0, []) := rfl
theorem zr_196_22 : z_co 196 22 = (.bipush (-5), 2, 0, 0, []) := rfl
theorem zr_196_24 : z_co 196 24 = (.invokevirtual 129, 3, 149, 0, [1366, 1368, 46]) := rfl
theorem zr_196_27 : z_co 196 27 = (.ireturn, 1, 0, 0, []) := rfl
theorem zr_196_28 : z_co 196 28 = (.aload_n 0, 1, 0, 0, []) := rfl
theorem zr_196_29 : z_co 196 29 = (.invokevirtual 312, 3, 175, 0, [1495, 1497, 62]) := rfl
theorem zr_196_32 : z_co 196 32 = (.aload_n 0, 1, 0, 0, []) := rfl
theorem zr_196_33 : z_co 196 33 = (.iconst 0, 1, 0, 0, []) := rfl
theorem zr_196_34 : z_co 196 34 = (.putfield 304, 3, 12, 15, [1205]) := rfl
theorem zr_196_37 : z_co 196 37 = (.aload_n 0, 1, 0, 0, []) := rfl
theorem zr_196_38 : z_co 196 38 = (.iconst 0, 1, 0, 0, []) := rfl
theorem zr_196_39 : z_co 196 39 = (.putfield 226, 3, 12, 17, [1207]) := rfl
theorem zr_196_42 : z_co 196 42 = (.aload_n 0, 1, 0, 0, []) := rfl
theorem zr_196_43 : z_co 196 43 = (.iconst 0, 1, 0, 0, []) := rfl
theorem zr_196_44 : z_co 196 44 = (.putfield 255, 3, 12, 20, [1210]) := rfl
theorem zr_196_47 : z_co 196 47 = (.aload_n 0, 1, 0, 0, []) := rfl
theorem zr_196_48 : z_co 196 48 = (.invokevirtual 315, 3, 195, 0, [1515, 1517, 64]) := rfl
theorem zr_196_51 : z_co 196 51 = (.aload_n 0, 1, 0, 0, []) := rfl
theorem zr_196_52 : z_co 196 52 = (.getfield 187, 3, 12, 14, [1204]) := rfl
theorem zr_196_55 : z_co 196 55 = (.ifCond .ne 23, 3, 0, 0, []) := rfl
theorem zr_196_58 : z_co 196 58 = (.aload_n 0, 1, 0, 0, []) := rfl
theorem zr_196_59 : z_co 196 59 = (.bipush 59, 2, 0, 0, []) := rfl
theorem zr_196_61 : z_co 196 61 = (.invokevirtual 258, 3, 178, 0, [1541, 1543, 70]) := rfl
theorem zr_196_64 : z_co 196 64 = (.ifCond .eq 14, 3, 0, 0, []) := rfl
theorem zr_196_67 : z_co 196 67 = (.aload_n 0, 1, 0, 0, []) := rfl
theorem zr_196_68 : z_co 196 68 = (.invokevirtual 191, 3, 176, 0, [1499, 1501, 63]) := rfl
theorem zr_196_71 : z_co 196 71 = (.aload_n 0, 1, 0, 0, []) := rfl
theorem zr_196_72 : z_co 196 72 = (.invokevirtual 315, 3, 195, 0, [1515, 1517, 64]) := rfl
theorem zr_196_75 : z_co 196 75 = (.goto (-24), 3, 0, 0, []) := rfl
theorem zr_196_78 : z_co 196 78 = (.aload_n 0, 1, 0, 0, []) := rfl
theorem zr_196_79 : z_co 196 79 = (.getfield 187, 3, 12, 14, [1204]) := rfl
theorem zr_196_82 : z_co 196 82 = (.ifCond .ne 15, 3, 0, 0, []) := rfl
theorem zr_196_85 : z_co 196 85 = (.aload_n 0, 1, 0, 0, []) := rfl
theorem zr_196_86 : z_co 196 86 = (.getfield 207, 3, 12, 11, [1201]) := rfl
theorem zr_196_89 : z_co 196 89 = (.ifCond .eq 8, 3, 0, 0, []) := rfl
theorem zr_196_92 : z_co 196 92 = (.aload_n 0, 1, 0, 0, []) := rfl
theorem zr_196_93 : z_co 196 93 = (.iconst 0, 1, 0, 0, []) := rfl
theorem zr_196_94 : z_co 196 94 = (.invokevirtual 222, 3, 179, 0, [1524, 1526, 66]) := rfl
theorem zr_196_97 : z_co 196 97 = (.aload_n 0, 1, 0, 0, []) := rfl
theorem zr_196_98 : z_co 196 98 = (.iconst 0, 1, 0, 0, []) := rfl
theorem zr_196_99 : z_co 196 99 = (.putfield 174, 3, 12, 8, [1198]) := rfl
theorem zr_196_102 : z_co 196 102 = (.aload_n 0, 1, 0, 0, []) := rfl
theorem zr_196_103 : z_co 196 103 = (.getfield 187, 3, 12, 14, [1204]) := rfl
theorem zr_196_106 : z_co 196 106 = (.ifCond .eq 10, 3, 0, 0, []) := rfl
theorem zr_196_109 : z_co 196 109 = (.aload_n 0, 1, 0, 0, []) := rfl
theorem zr_196_110 : z_co 196 110 = (.bipush (-6), 2, 0, 0, []) := rfl
theorem zr_196_112 : z_co 196 112 = (.invokevirtual 129, 3, 149, 0, [1366, 1368, 46]) := rfl
theorem zr_196_115 : z_co 196 115 = (.ireturn, 1, 0, 0, []) := rfl
theorem zr_196_116 : z_co 196 116 = (.bipush 90, 2, 0, 0, []) := rfl
theorem zr_196_118 : z_co 196 118 = (.sipush 900, 3, 0, 0, []) := rfl
theorem zr_196_121 : z_co 196 121 = (.aload_n 0, 1, 0, 0, []) := rfl
theorem zr_196_122 : z_co 196 122 = (.getfield 13, 3, 12, 3, [1193]) := rfl
theorem zr_196_125 : z_co 196 125 = (.iconst 2, 1, 0, 0, []) := rfl
theorem zr_196_126 : z_co 196 126 = (.iaload, 1, 0, 0, []) := rfl
theorem zr_196_127 : z_co 196 127 = (.imul, 1, 0, 0, []) := rfl
theorem zr_196_128 : z_co 196 128 = (.iadd, 1, 0, 0, []) := rfl
theorem zr_196_129 : z_co 196 129 = (.istore_n 1, 1, 0, 0, []) := rfl
theorem zr_196_130 : z_co 196 130 = (.aload_n 0, 1, 0, 0, []) := rfl
theorem zr_196_131 : z_co 196 131 = (.getfield 13, 3, 12, 3, [1193]) := rfl
theorem zr_196_134 : z_co 196 134 = (.iload_n 1, 1, 0, 0, []) := rfl
theorem zr_196_135 : z_co 196 135 = (.iconst 1, 1, 0, 0, []) := rfl
theorem zr_196_136 : z_co 196 136 = (.iadd, 1, 0, 0, []) := rfl
theorem zr_196_137 : z_co 196 137 = (.aload_n 0, 1, 0, 0, []) := rfl
theorem zr_196_138 : z_co 196 138 = (.getfield 304, 3, 12, 15, [1205]) := rfl
theorem zr_196_141 : z_co 196 141 = (.iastore, 1, 0, 0, []) := rfl
theorem zr_196_142 : z_co 196 142 = (.iconst 0, 1, 0, 0, []) := rfl
theorem zr_196_143 : z_co 196 143 = (.istore_n 2, 1, 0, 0, []) := rfl
theorem zr_196_144 : z_co 196 144 = (.iload_n 2, 1, 0, 0, []) := rfl
theorem zr_196_145 : z_co 196 145 = (.bipush 8, 2, 0, 0, []) := rfl
theorem zr_196_147 : z_co 196 147 = (.aload_n 0, 1, 0, 0, []) := rfl
theorem zr_196_148 : z_co 196 148 = (.getfield 304, 3, 12, 15, [1205]) := rfl
theorem zr_196_151 : z_co 196 151 = (.imul, 1, 0, 0, []) := rfl
theorem zr_196_152 : z_co 196 152 = (.if_icmp .ge 25, 3, 0, 0, []) := rfl
theorem zr_196_155 : z_co 196 155 = (.aload_n 0, 1, 0, 0, []) := rfl
theorem zr_196_156 : z_co 196 156 = (.getfield 13, 3, 12, 3, [1193]) := rfl
theorem zr_196_159 : z_co 196 159 = (.iload_n 1, 1, 0, 0, []) := rfl
theorem zr_196_160 : z_co 196 160 = (.iconst 2, 1, 0, 0, []) := rfl
theorem zr_196_161 : z_co 196 161 = (.iadd, 1, 0, 0, []) := rfl
theorem zr_196_162 : z_co 196 162 = (.iload_n 2, 1, 0, 0, []) := rfl
theorem zr_196_163 : z_co 196 163 = (.iadd, 1, 0, 0, []) := rfl
theorem zr_196_164 : z_co 196 164 = (.aload_n 0, 1, 0, 0, []) := rfl
theorem zr_196_165 : z_co 196 165 = (.getfield 30, 3, 12, 16, [1206]) := rfl
theorem zr_196_168 : z_co 196 168 = (.iload_n 2, 1, 0, 0, []) := rfl
theorem zr_196_169 : z_co 196 169 = (.iaload, 1, 0, 0, []) := rfl
theorem zr_196_170 : z_co 196 170 = (.iastore, 1, 0, 0, []) := rfl
theorem zr_196_171 : z_co 196 171 = (.iinc 2 1, 3, 0, 0, []) := rfl
theorem zr_196_174 : z_co 196 174 = (.goto (-30), 3, 0, 0, []) := rfl
theorem zr_196_177 : z_co 196 177 = (.iconst 0, 1, 0, 0, []) := rfl
theorem zr_196_178 : z_co 196 178 = (.istore_n 2, 1, 0, 0, []) := rfl
theorem zr_196_179 : z_co 196 179 = (.iload_n 2, 1, 0, 0, []) := rfl
theorem zr_196_180 : z_co 196 180 = (.aload_n 0, 1, 0, 0, []) := rfl
theorem zr_196_181 : z_co 196 181 = (.getfield 226, 3, 12, 17, [1207]) := rfl
theorem zr_196_184 : z_co 196 184 = (.if_icmp .ge 49, 3, 0, 0, []) := rfl
theorem zr_196_187 : z_co 196 187 = (.aload_n 0, 1, 0, 0, []) := rfl
theorem zr_196_188 : z_co 196 188 = (.getfield 13, 3, 12, 3, [1193]) := rfl
theorem zr_196_191 : z_co 196 191 = (.iload_n 1, 1, 0, 0, []) := rfl
theorem zr_196_192 : z_co 196 192 = (.bipush 98, 2, 0, 0, []) := rfl
theorem zr_196_194 : z_co 196 194 = (.iadd, 1, 0, 0, []) := rfl
theorem zr_196_195 : z_co 196 195 = (.iconst 2, 1, 0, 0, []) := rfl
theorem zr_196_196 : z_co 196 196 = (.iload_n 2, 1, 0, 0, []) := rfl
theorem zr_196_197 : z_co 196 197 = (.imul, 1, 0, 0, []) := rfl
theorem zr_196_198 : z_co 196 198 = (.iadd, 1, 0, 0, []) := rfl
theorem zr_196_199 : z_co 196 199 = (.aload_n 0, 1, 0, 0, []) := rfl
theorem zr_196_200 : z_co 196 200 = (.getfield 33, 3, 12, 18, [1208]) := rfl
theorem zr_196_203 : z_co 196 203 = (.iload_n 2, 1, 0, 0, []) := rfl
theorem zr_196_204 : z_co 196 204 = (.iaload, 1, 0, 0, []) := rfl
theorem zr_196_205 : z_co 196 205 = (.iastore, 1, 0, 0, []) := rfl
theorem zr_196_206 : z_co 196 206 = (.aload_n 0, 1, 0, 0, []) := rfl
theorem zr_196_207 : z_co 196 207 = (.getfield 13, 3, 12, 3, [1193]) := rfl
theorem zr_196_210 : z_co 196 210 = (.iload_n 1, 1, 0, 0, []) := rfl
theorem zr_196_211 : z_co 196 211 = (.bipush 98, 2, 0, 0, []) := rfl
theorem zr_196_213 : z_co 196 213 = (.iadd, 1, 0, 0, []) := rfl
theorem zr_196_214 : z_co 196 214 = (.iconst 2, 1, 0, 0, []) := rfl
theorem zr_196_215 : z_co 196 215 = (.iload_n 2, 1, 0, 0, []) := rfl
theorem zr_196_216 : z_co 196 216 = (.imul, 1, 0, 0, []) := rfl
theorem zr_196_217 : z_co 196 217 = (.iadd, 1, 0, 0, []) := rfl
theorem zr_196_218 : z_co 196 218 = (.iconst 1, 1, 0, 0, []) := rfl
theorem zr_196_219 : z_co 196 219 = (.iadd, 1, 0, 0, []) := rfl
theorem zr_196_220 : z_co 196 220 = (.aload_n 0, 1, 0, 0, []) := rfl
theorem zr_196_221 : z_co 196 221 = (.getfield 36, 3, 12, 19, [1209]) := rfl
theorem zr_196_224 : z_co 196 224 = (.iload_n 2, 1, 0, 0, []) := rfl
theorem zr_196_225 : z_co 196 225 = (.iaload, 1, 0, 0, []) := rfl
theorem zr_196_226 : z_co 196 226 = (.iastore, 1, 0, 0, []) := rfl
theorem zr_196_227 : z_co 196 227 = (.iinc 2 1, 3, 0, 0, []) := rfl
theorem zr_196_230 : z_co 196 230 = (.goto (-51), 3, 0, 0, []) := rfl
theorem zr_196_233 : z_co 196 233 = (.aload_n 0, 1, 0, 0, []) := rfl
theorem zr_196_234 : z_co 196 234 = (.getfield 13, 3, 12, 3, [1193]) := rfl
theorem zr_196_237 : z_co 196 237 = (.iconst 2, 1, 0, 0, []) := rfl
theorem zr_196_238 : z_co 196 238 = (.dup2, 1, 0, 0, []) := rfl
theorem zr_196_239 : z_co 196 239 = (.iaload, 1, 0, 0, []) := rfl
theorem zr_196_240 : z_co 196 240 = (.iconst 1, 1, 0, 0, []) := rfl
theorem zr_196_241 : z_co 196 241 = (.iadd, 1, 0, 0, []) := rfl
theorem zr_196_242 : z_co 196 242 = (.iastore, 1, 0, 0, []) := rfl
theorem zr_196_243 : z_co 196 243 = (.aload_n 0, 1, 0, 0, []) := rfl
theorem zr_196_244 : z_co 196 244 = (.aload_n 0, 1, 0, 0, []) := rfl
theorem zr_196_245 : z_co 196 245 = (.getfield 13, 3, 12, 3, [1193]) := rfl
theorem zr_196_248 : z_co 196 248 = (.iconst 2, 1, 0, 0, []) := rfl
theorem zr_196_249 : z_co 196 249 = (.iaload, 1, 0, 0, []) := rfl
theorem zr_196_250 : z_co 196 250 = (.iconst 1, 1, 0, 0, []) := rfl
theorem zr_196_251 : z_co 196 251 = (.isub, 1, 0, 0, []) := rfl
theorem zr_196_252 : z_co 196 252 = (.invokevirtual 129, 3, 149, 0, [1366, 1368, 46]) := rfl
theorem zr_196_255 : z_co 196 255 = (.ireturn, 1, 0, 0, []) := rfl
theorem zr_197_0 : z_co 197 0 = (.aload_n 0, 1, 0, 0, []) := rfl
theorem zr_197_1 : z_co 197 1 = (.iconst 0, 1, 0, 0, []) := rfl
theorem zr_197_2 : z_co 197 2 = (.putfield 115, 3, 12, 0, [1190]) := rfl
theorem zr_197_5 : z_co 197 5 = (.iload_n 1, 1, 0, 0, []) := rfl
theorem zr_197_6 : z_co 197 6 = (.iconst (-1), 1, 0, 0, []) := rfl
theorem zr_197_7 : z_co 197 7 = (.if_icmp .eq 21, 3, 0, 0, []) := rfl
theorem zr_197_10 : z_co 197 10 = (.iload_n 1, 1, 0, 0, []) := rfl
theorem zr_197_11 : z_co 197 11 = (.i2l, 1, 0, 0, []) := rfl
theorem zr_197_12 : z_co 197 12 = (.lconst 0, 1, 0, 0, []) := rfl
theorem zr_197_13 : z_co 197 13 = (.aload_n 0, 1, 0, 0, []) := rfl
theorem zr_197_14 : z_co 197 14 = (.getfield 13, 3, 12, 3, [1193]) := rfl
theorem zr_197_17 : z_co 197 17 = (.iconst 2, 1, 0, 0, []) := rfl
theorem zr_197_18 : z_co 197 18 = (.iaload, 1, 0, 0, []) := rfl
theorem zr_197_19 : z_co 197 19 = (.i2l, 1, 0, 0, []) := rfl
theorem zr_197_20 : z_co 197 20 = (.lconst 1, 1, 0, 0, []) := rfl
theorem zr_197_21 : z_co 197 21 = (.lsub, 1, 0, 0, []) := rfl
theorem zr_197_22 : z_co 197 22 = (.invokestatic 125, 3, 145, 0, [1363, 1364]) := rfl
theorem zr_197_25 : z_co 197 25 = (.ifCond .eq 12, 3, 0, 0, []) := rfl
theorem zr_197_28 : z_co 197 28 = (.aload_n 0, 1, 0, 0, []) := rfl
theorem zr_197_29 : z_co 197 29 = (.iconst 3, 1, 0, 0, []) := rfl
theorem zr_197_30 : z_co 197 30 = (.iload_n 1, 1, 0, 0, []) := rfl
theorem zr_197_31 : z_co 197 31 = (.invokevirtual 152, 3, 151, 0, [1399, 1401, 50]) := rfl
theorem zr_197_34 : z_co 197 34 = (.goto 9, 3, 0, 0, []) := rfl
theorem zr_197_37 : z_co 197 37 = (.aload_n 0, 1, 0, 0, []) := rfl
theorem zr_197_38 : z_co 197 38 = (.bipush (-2), 2, 0, 0, []) := rfl
theorem zr_197_40 : z_co 197 40 = (.invokevirtual 129, 3, 149, 0, [1366, 1368, 46]) := rfl
theorem zr_197_43 : z_co 197 43 = (.ireturn, 1, 0, 0, []) := rfl
theorem zr_198_0 : z_co 198 0 = (.iload_n 1, 1, 0, 0, []) := rfl
theorem zr_198_1 : z_co 198 1 = (.tableswitch 112 20 25 #[39, 44, 49, 54, 86, 99], 39, 0, 0, []) := rfl
theorem zr_198_40 : z_co 198 40 = (.lload_n 2, 1, 0, 0, []) := rfl
theorem zr_198_41 : z_co 198 41 = (.lload 4, 2, 0, 0, []) := rfl
theorem zr_198_43 : z_co 198 43 = (.ladd, 1, 0, 0, []) := rfl
theorem zr_198_44 : z_co 198 44 = (.lreturn, 1, 0, 0, []) := rfl
theorem zr_198_45 : z_co 198 45 = (.lload_n 2, 1, 0, 0, []) := rfl
theorem zr_198_46 : z_co 198 46 = (.lload 4, 2, 0, 0, []) := rfl
theorem zr_198_48 : z_co 198 48 = (.lsub, 1, 0, 0, []) := rfl
theorem zr_198_49 : z_co 198 49 = (.lreturn, 1, 0, 0, []) := rfl
theorem zr_198_50 : z_co 198 50 = (.lload_n 2, 1, 0, 0, []) := rfl
theorem zr_198_51 : z_co 198 51 = (.lload 4, 2, 0, 0, []) := rfl
theorem zr_198_53 : z_co 198 53 = (.lmul, 1, 0, 0, []) := rfl
theorem zr_198_54 : z_co 198 54 = (.lreturn, 1, 0, 0, []) := rfl
theorem zr_198_55 : z_co 198 55 = (.aload_n 0, 1, 0, 0, []) := rfl
theorem zr_198_56 : z_co 198 56 = (.lload 4, 2, 0, 0, []) := rfl
theorem zr_198_58 : z_co 198 58 = (.lconst 0, 1, 0, 0, []) := rfl
theorem zr_198_59 : z_co 198 59 = (.lcmp, 1, 0, 0, []) := rfl
theorem zr_198_60 : z_co 198 60 = (.ifCond .ne 7, 3, 0, 0, []) := rfl
theorem zr_198_63 : z_co 198 63 = (.iconst 1, 1, 0, 0, []) := rfl
theorem zr_198_64 : z_co 198 64 = (.goto 4, 3, 0, 0, []) := rfl
theorem zr_198_67 : z_co 198 67 = (.iconst 0, 1, 0, 0, []) := rfl
theorem zr_198_68 : z_co 198 68 = (.putfield 318, 3, 12, 29, [1219]) := rfl
theorem zr_198_71 : z_co 198 71 = (.aload_n 0, 1, 0, 0, []) := rfl
theorem zr_198_72 : z_co 198 72 = (.getfield 318, 3, 12, 29, [1219]) := rfl
theorem zr_198_75 : z_co 198 75 = (.ifCond .eq 7, 3, 0, 0, []) := rfl
theorem zr_198_78 : z_co 198 78 = (.lconst 0, 1, 0, 0, []) := rfl
theorem zr_198_79 : z_co 198 79 = (.goto 7, 3, 0, 0, []) := rfl
theorem zr_198_82 : z_co 198 82 = (.lload_n 2, 1, 0, 0, []) := rfl
theorem zr_198_83 : z_co 198 83 = (.lload 4, 2, 0, 0, []) := rfl
theorem zr_198_85 : z_co 198 85 = (.ldiv, 1, 0, 0, []) := rfl
theorem zr_198_86 : z_co 198 86 = (.lreturn, 1, 0, 0, []) := rfl
theorem zr_198_87 : z_co 198 87 = (.lload_n 2, 1, 0, 0, []) := rfl
theorem zr_198_88 : z_co 198 88 = (.lload 4, 2, 0, 0, []) := rfl
theorem zr_198_90 : z_co 198 90 = (.lcmp, 1, 0, 0, []) := rfl
theorem zr_198_91 : z_co 198 91 = (.ifCond .ge 7, 3, 0, 0, []) := rfl
theorem zr_198_94 : z_co 198 94 = (.lconst 1, 1, 0, 0, []) := rfl
theorem zr_198_95 : z_co 198 95 = (.goto 4, 3, 0, 0, []) := rfl
theorem zr_198_98 : z_co 198 98 = (.lconst 0, 1, 0, 0, []) := rfl
theorem zr_198_99 : z_co 198 99 = (.lreturn, 1, 0, 0, []) := rfl
theorem zr_198_100 : z_co 198 100 = (.lload_n 2, 1, 0, 0, []) := rfl
theorem zr_198_101 : z_co 198 101 = (.lload 4, 2, 0, 0, []) := rfl
theorem zr_198_103 : z_co 198 103 = (.lcmp, 1, 0, 0, []) := rfl
theorem zr_198_104 : z_co 198 104 = (.ifCond .le 7, 3, 0, 0, []) := rfl
theorem zr_198_107 : z_co 198 107 = (.lconst 1, 1, 0, 0, []) := rfl
theorem zr_198_108 : z_co 198 108 = (.goto 4, 3, 0, 0, []) := rfl
theorem zr_198_111 : z_co 198 111 = (.lconst 0, 1, 0, 0, []) := rfl
theorem zr_198_112 : z_co 198 112 = (.lreturn, 1, 0, 0, []) := rfl
theorem zr_198_113 : z_co 198 113 = (.lload_n 2, 1, 0, 0, []) := rfl
theorem zr_198_114 : z_co 198 114 = (.lload 4, 2, 0, 0, []) := rfl
theorem zr_198_116 : z_co 198 116 = (.lcmp, 1, 0, 0, []) := rfl
theorem zr_198_117 : z_co 198 117 = (.ifCond .ne 7, 3, 0, 0, []) := rfl
theorem zr_198_120 : z_co 198 120 = (.lconst 1, 1, 0, 0, []) := rfl
theorem zr_198_121 : z_co 198 121 = (.goto 4, 3, 0, 0, []) := rfl
theorem zr_198_124 : z_co 198 124 = (.lconst 0, 1, 0, 0, []) := rfl
theorem zr_198_125 : z_co 198 125 = (.lreturn, 1, 0, 0, []) := rfl
theorem zr_199_0 : z_co 199 0 = (.aload_n 0, 1, 0, 0, []) := rfl
theorem zr_199_1 : z_co 199 1 = (.iconst 0, 1, 0, 0, []) := rfl
theorem zr_199_2 : z_co 199 2 = (.putfield 318, 3, 12, 29, [1219]) := rfl
theorem zr_199_5 : z_co 199 5 = (.iconst 0, 1, 0, 0, []) := rfl
theorem zr_199_6 : z_co 199 6 = (.istore_n 3, 1, 0, 0, []) := rfl
theorem zr_199_7 : z_co 199 7 = (.iload_n 1, 1, 0, 0, []) := rfl
theorem zr_199_8 : z_co 199 8 = (.istore 4, 2, 0, 0, []) := rfl
theorem zr_199_10 : z_co 199 10 = (.iload 4, 2, 0, 0, []) := rfl
theorem zr_199_12 : z_co 199 12 = (.iload_n 2, 1, 0, 0, []) := rfl
theorem zr_199_13 : z_co 199 13 = (.if_icmp .ge 232, 3, 0, 0, []) := rfl
theorem zr_199_16 : z_co 199 16 = (.aload_n 0, 1, 0, 0, []) := rfl
theorem zr_199_17 : z_co 199 17 = (.getfield 318, 3, 12, 29, [1219]) := rfl
theorem zr_199_20 : z_co 199 20 = (.ifCond .ne 225, 3, 0, 0, []) := rfl
theorem zr_199_23 : z_co 199 23 = (.aload_n 0, 1, 0, 0, []) := rfl
theorem zr_199_24 : z_co 199 24 = (.getfield 13, 3, 12, 3, [1193]) := rfl
theorem zr_199_27 : z_co 199 27 = (.aload_n 0, 1, 0, 0, []) := rfl
theorem zr_199_28 : z_co 199 28 = (.getfield 321, 3, 12, 26, [1216]) := rfl
theorem zr_199_31 : z_co 199 31 = (.bipush 98, 2, 0, 0, []) := rfl
theorem zr_199_33 : z_co 199 33 = (.iadd, 1, 0, 0, []) := rfl
theorem zr_199_34 : z_co 199 34 = (.iconst 2, 1, 0, 0, []) := rfl
theorem zr_199_35 : z_co 199 35 = (.iload 4, 2, 0, 0, []) := rfl
theorem zr_199_37 : z_co 199 37 = (.imul, 1, 0, 0, []) := rfl
theorem zr_199_38 : z_co 199 38 = (.iadd, 1, 0, 0, []) := rfl
theorem zr_199_39 : z_co 199 39 = (.iaload, 1, 0, 0, []) := rfl
theorem zr_199_40 : z_co 199 40 = (.istore 5, 2, 0, 0, []) := rfl
theorem zr_199_42 : z_co 199 42 = (.aload_n 0, 1, 0, 0, []) := rfl
theorem zr_199_43 : z_co 199 43 = (.getfield 13, 3, 12, 3, [1193]) := rfl
theorem zr_199_46 : z_co 199 46 = (.aload_n 0, 1, 0, 0, []) := rfl
theorem zr_199_47 : z_co 199 47 = (.getfield 321, 3, 12, 26, [1216]) := rfl
theorem zr_199_50 : z_co 199 50 = (.bipush 98, 2, 0, 0, []) := rfl
theorem zr_199_52 : z_co 199 52 = (.iadd, 1, 0, 0, []) := rfl
theorem zr_199_53 : z_co 199 53 = (.iconst 2, 1, 0, 0, []) := rfl
theorem zr_199_54 : z_co 199 54 = (.iload 4, 2, 0, 0, []) := rfl
theorem zr_199_56 : z_co 199 56 = (.imul, 1, 0, 0, []) := rfl
theorem zr_199_57 : z_co 199 57 = (.iadd, 1, 0, 0, []) := rfl
theorem zr_199_58 : z_co 199 58 = (.iconst 1, 1, 0, 0, []) := rfl
theorem zr_199_59 : z_co 199 59 = (.iadd, 1, 0, 0, []) := rfl
theorem zr_199_60 : z_co 199 60 = (.iaload, 1, 0, 0, []) := rfl
theorem zr_199_61 : z_co 199 61 = (.istore 6, 2, 0, 0, []) := rfl
theorem zr_199_63 : z_co 199 63 = (.iinc 4 1, 3, 0, 0, []) := rfl
theorem zr_199_66 : z_co 199 66 = (.iload 5, 2, 0, 0, []) := rfl
theorem zr_199_68 : z_co 199 68 = (.bipush 20, 2, 0, 0, []) := rfl
theorem zr_199_70 : z_co 199 70 = (.if_icmp .ge 33, 3, 0, 0, []) := rfl
theorem zr_199_73 : z_co 199 73 = (.aload_n 0, 1, 0, 0, []) := rfl
theorem zr_199_74 : z_co 199 74 = (.getfield 70, 3, 12, 28, [1218]) := rfl
theorem zr_199_77 : z_co 199 77 = (.iload_n 3, 1, 0, 0, []) := rfl
theorem zr_199_78 : z_co 199 78 = (.iload 5, 2, 0, 0, []) := rfl
theorem zr_199_80 : z_co 199 80 = (.ifCond .ne 9, 3, 0, 0, []) := rfl
theorem zr_199_83 : z_co 199 83 = (.iload 6, 2, 0, 0, []) := rfl
theorem zr_199_85 : z_co 199 85 = (.i2l, 1, 0, 0, []) := rfl
theorem zr_199_86 : z_co 199 86 = (.goto 10, 3, 0, 0, []) := rfl
theorem zr_199_89 : z_co 199 89 = (.aload_n 0, 1, 0, 0, []) := rfl
theorem zr_199_90 : z_co 199 90 = (.getfield 67, 3, 12, 27, [1217]) := rfl
theorem zr_199_93 : z_co 199 93 = (.iload 5, 2, 0, 0, []) := rfl
theorem zr_199_95 : z_co 199 95 = (.laload, 1, 0, 0, []) := rfl
theorem zr_199_96 : z_co 199 96 = (.lastore, 1, 0, 0, []) := rfl
theorem zr_199_97 : z_co 199 97 = (.iinc 3 1, 3, 0, 0, []) := rfl
theorem zr_199_100 : z_co 199 100 = (.goto 142, 3, 0, 0, []) := rfl
theorem zr_199_103 : z_co 199 103 = (.iload 5, 2, 0, 0, []) := rfl
theorem zr_199_105 : z_co 199 105 = (.bipush 27, 2, 0, 0, []) := rfl
theorem zr_199_107 : z_co 199 107 = (.if_icmp .ge 73, 3, 0, 0, []) := rfl
theorem zr_199_110 : z_co 199 110 = (.iinc 3 (-1), 3, 0, 0, []) := rfl
theorem zr_199_113 : z_co 199 113 = (.aload_n 0, 1, 0, 0, []) := rfl
theorem zr_199_114 : z_co 199 114 = (.getfield 70, 3, 12, 28, [1218]) := rfl
theorem zr_199_117 : z_co 199 117 = (.iload_n 3, 1, 0, 0, []) := rfl
theorem zr_199_118 : z_co 199 118 = (.iconst 1, 1, 0, 0, []) := rfl
theorem zr_199_119 : z_co 199 119 = (.isub, 1, 0, 0, []) := rfl
theorem zr_199_120 : z_co 199 120 = (.aload_n 0, 1, 0, 0, []) := rfl
theorem zr_199_121 : z_co 199 121 = (.iload 5, 2, 0, 0, []) := rfl
theorem zr_199_123 : z_co 199 123 = (.aload_n 0, 1, 0, 0, []) := rfl
theorem zr_199_124 : z_co 199 124 = (.getfield 70, 3, 12, 28, [1218]) := rfl
theorem zr_199_127 : z_co 199 127 = (.iload_n 3, 1, 0, 0, []) := rfl
theorem zr_199_128 : z_co 199 128 = (.iconst 1, 1, 0, 0, []) := rfl
theorem zr_199_129 : z_co 199 129 = (.isub, 1, 0, 0, []) := rfl
theorem zr_199_130 : z_co 199 130 = (.laload, 1, 0, 0, []) := rfl
theorem zr_199_131 : z_co 199 131 = (.aload_n 0, 1, 0, 0, []) := rfl
theorem zr_199_132 : z_co 199 132 = (.getfield 70, 3, 12, 28, [1218]) := rfl
theorem zr_199_135 : z_co 199 135 = (.iload_n 3, 1, 0, 0, []) := rfl
theorem zr_199_136 : z_co 199 136 = (.laload, 1, 0, 0, []) := rfl
theorem zr_199_137 : z_co 199 137 = (.invokevirtual 324, 3, 198, 0, [1440, 1442, 59]) := rfl
theorem zr_199_140 : z_co 199 140 = (.lastore, 1, 0, 0, []) := rfl
theorem zr_199_141 : z_co 199 141 = (.aload_n 0, 1, 0, 0, []) := rfl
theorem zr_199_142 : z_co 199 142 = (.aload_n 0, 1, 0, 0, []) := rfl
theorem zr_199_143 : z_co 199 143 = (.getfield 318, 3, 12, 29, [1219]) := rfl
theorem zr_199_146 : z_co 199 146 = (.ifCond .ne 23, 3, 0, 0, []) := rfl
theorem zr_199_149 : z_co 199 149 = (.aload_n 0, 1, 0, 0, []) := rfl
theorem zr_199_150 : z_co 199 150 = (.getfield 70, 3, 12, 28, [1218]) := rfl
theorem zr_199_153 : z_co 199 153 = (.iload_n 3, 1, 0, 0, []) := rfl
theorem zr_199_154 : z_co 199 154 = (.iconst 1, 1, 0, 0, []) := rfl
theorem zr_199_155 : z_co 199 155 = (.isub, 1, 0, 0, []) := rfl
theorem zr_199_156 : z_co 199 156 = (.laload, 1, 0, 0, []) := rfl
theorem zr_199_157 : z_co 199 157 = (.ldc2_w 328, 3, 1000000000, 1, [1444]) := rfl
theorem zr_199_160 : z_co 199 160 = (.ldc2_w 330, 3, 1000000000, 0, [1445]) := rfl
theorem zr_199_163 : z_co 199 163 = (.invokestatic 125, 3, 145, 0, [1363, 1364]) := rfl
theorem zr_199_166 : z_co 199 166 = (.ifCond .ne 7, 3, 0, 0, []) := rfl
theorem zr_199_169 : z_co 199 169 = (.iconst 1, 1, 0, 0, []) := rfl
theorem zr_199_170 : z_co 199 170 = (.goto 4, 3, 0, 0, []) := rfl
theorem zr_199_173 : z_co 199 173 = (.iconst 0, 1, 0, 0, []) := rfl
theorem zr_199_174 : z_co 199 174 = (.putfield 318, 3, 12, 29, [1219]) := rfl
theorem zr_199_177 : z_co 199 177 = (.goto 65, 3, 0, 0, []) := rfl
theorem zr_199_180 : z_co 199 180 = (.iload 5, 2, 0, 0, []) := rfl
theorem zr_199_182 : z_co 199 182 = (.bipush 27, 2, 0, 0, []) := rfl
theorem zr_199_184 : z_co 199 184 = (.if_icmp .ne 24, 3, 0, 0, []) := rfl
theorem zr_199_187 : z_co 199 187 = (.aload_n 0, 1, 0, 0, []) := rfl
theorem zr_199_188 : z_co 199 188 = (.getfield 70, 3, 12, 28, [1218]) := rfl
theorem zr_199_191 : z_co 199 191 = (.iload_n 3, 1, 0, 0, []) := rfl
theorem zr_199_192 : z_co 199 192 = (.iconst 1, 1, 0, 0, []) := rfl
theorem zr_199_193 : z_co 199 193 = (.isub, 1, 0, 0, []) := rfl
theorem zr_199_194 : z_co 199 194 = (.lconst 1, 1, 0, 0, []) := rfl
theorem zr_199_195 : z_co 199 195 = (.aload_n 0, 1, 0, 0, []) := rfl
theorem zr_199_196 : z_co 199 196 = (.getfield 70, 3, 12, 28, [1218]) := rfl
theorem zr_199_199 : z_co 199 199 = (.iload_n 3, 1, 0, 0, []) := rfl
theorem zr_199_200 : z_co 199 200 = (.iconst 1, 1, 0, 0, []) := rfl
theorem zr_199_201 : z_co 199 201 = (.isub, 1, 0, 0, []) := rfl
theorem zr_199_202 : z_co 199 202 = (.laload, 1, 0, 0, []) := rfl
theorem zr_199_203 : z_co 199 203 = (.lsub, 1, 0, 0, []) := rfl
theorem zr_199_204 : z_co 199 204 = (.lastore, 1, 0, 0, []) := rfl
theorem zr_199_205 : z_co 199 205 = (.goto 37, 3, 0, 0, []) := rfl
theorem zr_199_208 : z_co 199 208 = (.aload_n 0, 1, 0, 0, []) := rfl
theorem zr_199_209 : z_co 199 209 = (.getfield 70, 3, 12, 28, [1218]) := rfl
theorem zr_199_212 : z_co 199 212 = (.iload_n 3, 1, 0, 0, []) := rfl
theorem zr_199_213 : z_co 199 213 = (.iconst 1, 1, 0, 0, []) := rfl
theorem zr_199_214 : z_co 199 214 = (.isub, 1, 0, 0, []) := rfl
theorem zr_199_215 : z_co 199 215 = (.laload, 1, 0, 0, []) := rfl
theorem zr_199_216 : z_co 199 216 = (.iload 5, 2, 0, 0, []) := rfl
theorem zr_199_218 : z_co 199 218 = (.bipush 28, 2, 0, 0, []) := rfl
theorem zr_199_220 : z_co 199 220 = (.if_icmp .ne 7, 3, 0, 0, []) := rfl
theorem zr_199_223 : z_co 199 223 = (.lconst 0, 1, 0, 0, []) := rfl
theorem zr_199_224 : z_co 199 224 = (.goto 4, 3, 0, 0, []) := rfl
theorem zr_199_227 : z_co 199 227 = (.lconst 1, 1, 0, 0, []) := rfl
theorem zr_199_228 : z_co 199 228 = (.lcmp, 1, 0, 0, []) := rfl
theorem zr_199_229 : z_co 199 229 = (.ifCond .ne 10, 3, 0, 0, []) := rfl
theorem zr_199_232 : z_co 199 232 = (.iload 6, 2, 0, 0, []) := rfl
theorem zr_199_234 : z_co 199 234 = (.istore 4, 2, 0, 0, []) := rfl
theorem zr_199_236 : z_co 199 236 = (.goto 6, 3, 0, 0, []) := rfl
theorem zr_199_239 : z_co 199 239 = (.iinc 3 (-1), 3, 0, 0, []) := rfl
theorem zr_199_242 : z_co 199 242 = (.goto (-232), 3, 0, 0, []) := rfl
theorem zr_199_245 : z_co 199 245 = (.aload_n 0, 1, 0, 0, []) := rfl
theorem zr_199_246 : z_co 199 246 = (.iload_n 3, 1, 0, 0, []) := rfl
theorem zr_199_247 : z_co 199 247 = (.ifCond .le 12, 3, 0, 0, []) := rfl
theorem zr_199_250 : z_co 199 250 = (.aload_n 0, 1, 0, 0, []) := rfl
theorem zr_199_251 : z_co 199 251 = (.getfield 70, 3, 12, 28, [1218]) := rfl
theorem zr_199_254 : z_co 199 254 = (.iconst 0, 1, 0, 0, []) := rfl
theorem zr_199_255 : z_co 199 255 = (.laload, 1, 0, 0, []) := rfl
theorem zr_199_256 : z_co 199 256 = (.goto 4, 3, 0, 0, []) := rfl
theorem zr_199_259 : z_co 199 259 = (.lconst 0, 1, 0, 0, []) := rfl
theorem zr_199_260 : z_co 199 260 = (.putfield 332, 3, 12, 30, [1220]) := rfl
theorem zr_199_263 : z_co 199 263 = (.return_, 1, 0, 0, []) := rfl
theorem zr_200_0 : z_co 200 0 = (.aload_n 0, 1, 0, 0, []) := rfl
theorem zr_200_1 : z_co 200 1 = (.getfield 13, 3, 12, 3, [1193]) := rfl
theorem zr_200_4 : z_co 200 4 = (.iload_n 1, 1, 0, 0, []) := rfl
theorem zr_200_5 : z_co 200 5 = (.iconst 5, 1, 0, 0, []) := rfl
theorem zr_200_6 : z_co 200 6 = (.iadd, 1, 0, 0, []) := rfl
theorem zr_200_7 : z_co 200 7 = (.iaload, 1, 0, 0, []) := rfl
theorem zr_200_8 : z_co 200 8 = (.aload_n 0, 1, 0, 0, []) := rfl
theorem zr_200_9 : z_co 200 9 = (.getfield 13, 3, 12, 3, [1193]) := rfl
theorem zr_200_12 : z_co 200 12 = (.iload_n 1, 1, 0, 0, []) := rfl
theorem zr_200_13 : z_co 200 13 = (.bipush 6, 2, 0, 0, []) := rfl
theorem zr_200_15 : z_co 200 15 = (.iadd, 1, 0, 0, []) := rfl
theorem zr_200_16 : z_co 200 16 = (.iaload, 1, 0, 0, []) := rfl
theorem zr_200_17 : z_co 200 17 = (.if_icmp .ge 42, 3, 0, 0, []) := rfl
theorem zr_200_20 : z_co 200 20 = (.aload_n 0, 1, 0, 0, []) := rfl
theorem zr_200_21 : z_co 200 21 = (.aload_n 0, 1, 0, 0, []) := rfl
theorem zr_200_22 : z_co 200 22 = (.getfield 13, 3, 12, 3, [1193]) := rfl
theorem zr_200_25 : z_co 200 25 = (.iload_n 1, 1, 0, 0, []) := rfl
theorem zr_200_26 : z_co 200 26 = (.iconst 5, 1, 0, 0, []) := rfl
theorem zr_200_27 : z_co 200 27 = (.iadd, 1, 0, 0, []) := rfl
theorem zr_200_28 : z_co 200 28 = (.iaload, 1, 0, 0, []) := rfl
theorem zr_200_29 : z_co 200 29 = (.aload_n 0, 1, 0, 0, []) := rfl
theorem zr_200_30 : z_co 200 30 = (.getfield 13, 3, 12, 3, [1193]) := rfl
theorem zr_200_33 : z_co 200 33 = (.iload_n 1, 1, 0, 0, []) := rfl
theorem zr_200_34 : z_co 200 34 = (.bipush 6, 2, 0, 0, []) := rfl
theorem zr_200_36 : z_co 200 36 = (.iadd, 1, 0, 0, []) := rfl
theorem zr_200_37 : z_co 200 37 = (.iaload, 1, 0, 0, []) := rfl
theorem zr_200_38 : z_co 200 38 = (.invokevirtual 335, 3, 199, 0, [1436, 1438, 58]) := rfl
theorem zr_200_41 : z_co 200 41 = (.aload_n 0, 1, 0, 0, []) := rfl
theorem zr_200_42 : z_co 200 42 = (.getfield 318, 3, 12, 29, [1219]) := rfl
theorem zr_200_45 : z_co 200 45 = (.ifCond .ne 12, 3, 0, 0, []) := rfl
theorem zr_200_48 : z_co 200 48 = (.aload_n 0, 1, 0, 0, []) := rfl
theorem zr_200_49 : z_co 200 49 = (.getfield 332, 3, 12, 30, [1220]) := rfl
theorem zr_200_52 : z_co 200 52 = (.lconst 0, 1, 0, 0, []) := rfl
theorem zr_200_53 : z_co 200 53 = (.lcmp, 1, 0, 0, []) := rfl
theorem zr_200_54 : z_co 200 54 = (.ifCond .ne 5, 3, 0, 0, []) := rfl
theorem zr_200_57 : z_co 200 57 = (.iconst 0, 1, 0, 0, []) := rfl
theorem zr_200_58 : z_co 200 58 = (.ireturn, 1, 0, 0, []) := rfl
theorem zr_200_59 : z_co 200 59 = (.aload_n 0, 1, 0, 0, []) := rfl
theorem zr_200_60 : z_co 200 60 = (.getfield 13, 3, 12, 3, [1193]) := rfl
theorem zr_200_63 : z_co 200 63 = (.iload_n 1, 1, 0, 0, []) := rfl
theorem zr_200_64 : z_co 200 64 = (.iaload, 1, 0, 0, []) := rfl
theorem zr_200_65 : z_co 200 65 = (.ifCond .ne 44, 3, 0, 0, []) := rfl
theorem zr_200_68 : z_co 200 68 = (.aload_n 0, 1, 0, 0, []) := rfl
theorem zr_200_69 : z_co 200 69 = (.aload_n 0, 1, 0, 0, []) := rfl
theorem zr_200_70 : z_co 200 70 = (.getfield 13, 3, 12, 3, [1193]) := rfl
theorem zr_200_73 : z_co 200 73 = (.iload_n 1, 1, 0, 0, []) := rfl
theorem zr_200_74 : z_co 200 74 = (.iconst 3, 1, 0, 0, []) := rfl
theorem zr_200_75 : z_co 200 75 = (.iadd, 1, 0, 0, []) := rfl
theorem zr_200_76 : z_co 200 76 = (.iaload, 1, 0, 0, []) := rfl
theorem zr_200_77 : z_co 200 77 = (.aload_n 0, 1, 0, 0, []) := rfl
theorem zr_200_78 : z_co 200 78 = (.getfield 13, 3, 12, 3, [1193]) := rfl
theorem zr_200_81 : z_co 200 81 = (.iload_n 1, 1, 0, 0, []) := rfl
theorem zr_200_82 : z_co 200 82 = (.iconst 4, 1, 0, 0, []) := rfl
theorem zr_200_83 : z_co 200 83 = (.iadd, 1, 0, 0, []) := rfl
theorem zr_200_84 : z_co 200 84 = (.iaload, 1, 0, 0, []) := rfl
theorem zr_200_85 : z_co 200 85 = (.invokevirtual 335, 3, 199, 0, [1436, 1438, 58]) := rfl
theorem zr_200_88 : z_co 200 88 = (.aload_n 0, 1, 0, 0, []) := rfl
theorem zr_200_89 : z_co 200 89 = (.aload_n 0, 1, 0, 0, []) := rfl
theorem zr_200_90 : z_co 200 90 = (.getfield 332, 3, 12, 30, [1220]) := rfl
theorem zr_200_93 : z_co 200 93 = (.putfield 338, 3, 12, 31, [1221]) := rfl
theorem zr_200_96 : z_co 200 96 = (.aload_n 0, 1, 0, 0, []) := rfl
theorem zr_200_97 : z_co 200 97 = (.getfield 318, 3, 12, 29, [1219]) := rfl
theorem zr_200_100 : z_co 200 100 = (.ifCond .ne 7, 3, 0, 0, []) := rfl
theorem zr_200_103 : z_co 200 103 = (.iconst 1, 1, 0, 0, []) := rfl
theorem zr_200_104 : z_co 200 104 = (.goto 4, 3, 0, 0, []) := rfl
theorem zr_200_107 : z_co 200 107 = (.iconst 0, 1, 0, 0, []) := rfl
theorem zr_200_108 : z_co 200 108 = (.ireturn, 1, 0, 0, []) := rfl
theorem zr_200_109 : z_co 200 109 = (.iconst 1, 1, 0, 0, []) := rfl
theorem zr_200_110 : z_co 200 110 = (.ireturn, 1, 0, 0, []) := rfl
theorem zr_201_0 : z_co 201 0 = (.aload_n 0, 1, 0, 0, []) := rfl
theorem zr_201_1 : z_co 201 1 = (.iconst 0, 1, 0, 0, []) := rfl
theorem zr_201_2 : z_co 201 2 = (.putfield 341, 3, 12, 36, [1226]) := rfl
theorem zr_201_5 : z_co 201 5 = (.iconst 0, 1, 0, 0, []) := rfl
theorem zr_201_6 : z_co 201 6 = (.istore_n 1, 1, 0, 0, []) := rfl
theorem zr_201_7 : z_co 201 7 = (.iload_n 1, 1, 0, 0, []) := rfl
theorem zr_201_8 : z_co 201 8 = (.bipush 12, 2, 0, 0, []) := rfl
theorem zr_201_10 : z_co 201 10 = (.if_icmp .ge 16, 3, 0, 0, []) := rfl
theorem zr_201_13 : z_co 201 13 = (.aload_n 0, 1, 0, 0, []) := rfl
theorem zr_201_14 : z_co 201 14 = (.getfield 73, 3, 12, 32, [1222]) := rfl
theorem zr_201_17 : z_co 201 17 = (.iload_n 1, 1, 0, 0, []) := rfl
theorem zr_201_18 : z_co 201 18 = (.iload_n 1, 1, 0, 0, []) := rfl
theorem zr_201_19 : z_co 201 19 = (.iastore, 1, 0, 0, []) := rfl
theorem zr_201_20 : z_co 201 20 = (.iinc 1 1, 3, 0, 0, []) := rfl
theorem zr_201_23 : z_co 201 23 = (.goto (-16), 3, 0, 0, []) := rfl
theorem zr_201_26 : z_co 201 26 = (.aload_n 0, 1, 0, 0, []) := rfl
theorem zr_201_27 : z_co 201 27 = (.invokevirtual 344, 3, 202, 0, [1416, 1418, 53]) := rfl
theorem zr_201_30 : z_co 201 30 = (.return_, 1, 0, 0, []) := rfl
theorem zr_202_0 : z_co 202 0 = (.iconst 0, 1, 0, 0, []) := rfl
theorem zr_202_1 : z_co 202 1 = (.istore_n 1, 1, 0, 0, []) := rfl
theorem zr_202_2 : z_co 202 2 = (.aload_n 0, 1, 0, 0, []) := rfl
theorem zr_202_3 : z_co 202 3 = (.iconst 0, 1, 0, 0, []) := rfl
theorem zr_202_4 : z_co 202 4 = (.putfield 341, 3, 12, 36, [1226]) := rfl
theorem zr_202_7 : z_co 202 7 = (.iconst 0, 1, 0, 0, []) := rfl
theorem zr_202_8 : z_co 202 8 = (.istore_n 2, 1, 0, 0, []) := rfl
theorem zr_202_9 : z_co 202 9 = (.iload_n 2, 1, 0, 0, []) := rfl
theorem zr_202_10 : z_co 202 10 = (.aload_n 0, 1, 0, 0, []) := rfl
theorem zr_202_11 : z_co 202 11 = (.invokevirtual 132, 3, 154, 0, [1383, 1385, 47]) := rfl
theorem zr_202_14 : z_co 202 14 = (.if_icmp .ge 117, 3, 0, 0, []) := rfl
theorem zr_202_17 : z_co 202 17 = (.iload_n 1, 1, 0, 0, []) := rfl
theorem zr_202_18 : z_co 202 18 = (.aload_n 0, 1, 0, 0, []) := rfl
theorem zr_202_19 : z_co 202 19 = (.aload_n 0, 1, 0, 0, []) := rfl
theorem zr_202_20 : z_co 202 20 = (.getfield 73, 3, 12, 32, [1222]) := rfl
theorem zr_202_23 : z_co 202 23 = (.iload_n 2, 1, 0, 0, []) := rfl
theorem zr_202_24 : z_co 202 24 = (.iaload, 1, 0, 0, []) := rfl
theorem zr_202_25 : z_co 202 25 = (.iconst 0, 1, 0, 0, []) := rfl
theorem zr_202_26 : z_co 202 26 = (.invokevirtual 161, 3, 157, 0, [1420, 1422, 54]) := rfl
theorem zr_202_29 : z_co 202 29 = (.iadd, 1, 0, 0, []) := rfl
theorem zr_202_30 : z_co 202 30 = (.istore_n 1, 1, 0, 0, []) := rfl
theorem zr_202_31 : z_co 202 31 = (.aload_n 0, 1, 0, 0, []) := rfl
theorem zr_202_32 : z_co 202 32 = (.getfield 76, 3, 12, 33, [1223]) := rfl
theorem zr_202_35 : z_co 202 35 = (.iload_n 2, 1, 0, 0, []) := rfl
theorem zr_202_36 : z_co 202 36 = (.iload_n 1, 1, 0, 0, []) := rfl
theorem zr_202_37 : z_co 202 37 = (.iastore, 1, 0, 0, []) := rfl
theorem zr_202_38 : z_co 202 38 = (.aload_n 0, 1, 0, 0, []) := rfl
theorem zr_202_39 : z_co 202 39 = (.dup, 1, 0, 0, []) := rfl
theorem zr_202_40 : z_co 202 40 = (.getfield 341, 3, 12, 36, [1226]) := rfl
theorem zr_202_43 : z_co 202 43 = (.aload_n 0, 1, 0, 0, []) := rfl
theorem zr_202_44 : z_co 202 44 = (.aload_n 0, 1, 0, 0, []) := rfl
theorem zr_202_45 : z_co 202 45 = (.getfield 73, 3, 12, 32, [1222]) := rfl
theorem zr_202_48 : z_co 202 48 = (.iload_n 2, 1, 0, 0, []) := rfl
theorem zr_202_49 : z_co 202 49 = (.iaload, 1, 0, 0, []) := rfl
theorem zr_202_50 : z_co 202 50 = (.iconst 3, 1, 0, 0, []) := rfl
theorem zr_202_51 : z_co 202 51 = (.invokevirtual 161, 3, 157, 0, [1420, 1422, 54]) := rfl
theorem zr_202_54 : z_co 202 54 = (.iconst 1, 1, 0, 0, []) := rfl
theorem zr_202_55 : z_co 202 55 = (.if_icmp .ne 9, 3, 0, 0, []) := rfl
theorem zr_202_58 : z_co 202 58 = (.iconst 1, 1, 0, 0, []) := rfl
theorem zr_202_59 : z_co 202 59 = (.iload_n 2, 1, 0, 0, []) := rfl
theorem zr_202_60 : z_co 202 60 = (.ishl, 1, 0, 0, []) := rfl
theorem zr_202_61 : z_co 202 61 = (.goto 4, 3, 0, 0, []) := rfl
theorem zr_202_64 : z_co 202 64 = (.iconst 0, 1, 0, 0, []) := rfl
theorem zr_202_65 : z_co 202 65 = (.ior, 1, 0, 0, []) := rfl
theorem zr_202_66 : z_co 202 66 = (.putfield 341, 3, 12, 36, [1226]) := rfl
theorem zr_202_69 : z_co 202 69 = (.iconst 0, 1, 0, 0, []) := rfl
theorem zr_202_70 : z_co 202 70 = (.istore_n 3, 1, 0, 0, []) := rfl
theorem zr_202_71 : z_co 202 71 = (.iload_n 3, 1, 0, 0, []) := rfl
theorem zr_202_72 : z_co 202 72 = (.aload_n 0, 1, 0, 0, []) := rfl
theorem zr_202_73 : z_co 202 73 = (.getfield 13, 3, 12, 3, [1193]) := rfl
theorem zr_202_76 : z_co 202 76 = (.iconst 4, 1, 0, 0, []) := rfl
theorem zr_202_77 : z_co 202 77 = (.iaload, 1, 0, 0, []) := rfl
theorem zr_202_78 : z_co 202 78 = (.if_icmp .ge 47, 3, 0, 0, []) := rfl
theorem zr_202_81 : z_co 202 81 = (.aload_n 0, 1, 0, 0, []) := rfl
theorem zr_202_82 : z_co 202 82 = (.getfield 82, 3, 12, 35, [1225]) := rfl
theorem zr_202_85 : z_co 202 85 = (.iload_n 3, 1, 0, 0, []) := rfl
theorem zr_202_86 : z_co 202 86 = (.aload_n 0, 1, 0, 0, []) := rfl
theorem zr_202_87 : z_co 202 87 = (.getfield 13, 3, 12, 3, [1193]) := rfl
theorem zr_202_90 : z_co 202 90 = (.bipush 68, 2, 0, 0, []) := rfl
theorem zr_202_92 : z_co 202 92 = (.iconst 2, 1, 0, 0, []) := rfl
theorem zr_202_93 : z_co 202 93 = (.iload_n 3, 1, 0, 0, []) := rfl
theorem zr_202_94 : z_co 202 94 = (.imul, 1, 0, 0, []) := rfl
theorem zr_202_95 : z_co 202 95 = (.iadd, 1, 0, 0, []) := rfl
theorem zr_202_96 : z_co 202 96 = (.iconst 1, 1, 0, 0, []) := rfl
theorem zr_202_97 : z_co 202 97 = (.iadd, 1, 0, 0, []) := rfl
theorem zr_202_98 : z_co 202 98 = (.iaload, 1, 0, 0, []) := rfl
theorem zr_202_99 : z_co 202 99 = (.aload_n 0, 1, 0, 0, []) := rfl
theorem zr_202_100 : z_co 202 100 = (.getfield 73, 3, 12, 32, [1222]) := rfl
theorem zr_202_103 : z_co 202 103 = (.iload_n 2, 1, 0, 0, []) := rfl
theorem zr_202_104 : z_co 202 104 = (.iaload, 1, 0, 0, []) := rfl
theorem zr_202_105 : z_co 202 105 = (.if_icmp .ne 7, 3, 0, 0, []) := rfl
theorem zr_202_108 : z_co 202 108 = (.iload_n 2, 1, 0, 0, []) := rfl
theorem zr_202_109 : z_co 202 109 = (.goto 9, 3, 0, 0, []) := rfl
theorem zr_202_112 : z_co 202 112 = (.aload_n 0, 1, 0, 0, []) := rfl
theorem zr_202_113 : z_co 202 113 = (.getfield 82, 3, 12, 35, [1225]) := rfl
theorem zr_202_116 : z_co 202 116 = (.iload_n 3, 1, 0, 0, []) := rfl
theorem zr_202_117 : z_co 202 117 = (.iaload, 1, 0, 0, []) := rfl
theorem zr_202_118 : z_co 202 118 = (.iastore, 1, 0, 0, []) := rfl
theorem zr_202_119 : z_co 202 119 = (.iinc 3 1, 3, 0, 0, []) := rfl
theorem zr_202_122 : z_co 202 122 = (.goto (-51), 3, 0, 0, []) := rfl
theorem zr_202_125 : z_co 202 125 = (.iinc 2 1, 3, 0, 0, []) := rfl
theorem zr_202_128 : z_co 202 128 = (.goto (-119), 3, 0, 0, []) := rfl
theorem zr_202_131 : z_co 202 131 = (.iconst 0, 1, 0, 0, []) := rfl
theorem zr_202_132 : z_co 202 132 = (.istore_n 2, 1, 0, 0, []) := rfl
theorem zr_202_133 : z_co 202 133 = (.iload_n 2, 1, 0, 0, []) := rfl
theorem zr_202_134 : z_co 202 134 = (.aload_n 0, 1, 0, 0, []) := rfl
theorem zr_202_135 : z_co 202 135 = (.getfield 13, 3, 12, 3, [1193]) := rfl
theorem zr_202_138 : z_co 202 138 = (.iconst 1, 1, 0, 0, []) := rfl
theorem zr_202_139 : z_co 202 139 = (.iaload, 1, 0, 0, []) := rfl
theorem zr_202_140 : z_co 202 140 = (.if_icmp .ge 57, 3, 0, 0, []) := rfl
theorem zr_202_143 : z_co 202 143 = (.aload_n 0, 1, 0, 0, []) := rfl
theorem zr_202_144 : z_co 202 144 = (.getfield 79, 3, 12, 34, [1224]) := rfl
theorem zr_202_147 : z_co 202 147 = (.iload_n 2, 1, 0, 0, []) := rfl
theorem zr_202_148 : z_co 202 148 = (.iconst 0, 1, 0, 0, []) := rfl
theorem zr_202_149 : z_co 202 149 = (.iastore, 1, 0, 0, []) := rfl
theorem zr_202_150 : z_co 202 150 = (.iconst 0, 1, 0, 0, []) := rfl
theorem zr_202_151 : z_co 202 151 = (.istore_n 3, 1, 0, 0, []) := rfl
theorem zr_202_152 : z_co 202 152 = (.iload_n 3, 1, 0, 0, []) := rfl
theorem zr_202_153 : z_co 202 153 = (.aload_n 0, 1, 0, 0, []) := rfl
theorem zr_202_154 : z_co 202 154 = (.invokevirtual 132, 3, 154, 0, [1383, 1385, 47]) := rfl
theorem zr_202_157 : z_co 202 157 = (.if_icmp .ge 34, 3, 0, 0, []) := rfl
theorem zr_202_160 : z_co 202 160 = (.aload_n 0, 1, 0, 0, []) := rfl
theorem zr_202_161 : z_co 202 161 = (.getfield 79, 3, 12, 34, [1224]) := rfl
theorem zr_202_164 : z_co 202 164 = (.iload_n 2, 1, 0, 0, []) := rfl
theorem zr_202_165 : z_co 202 165 = (.dup2, 1, 0, 0, []) := rfl
theorem zr_202_166 : z_co 202 166 = (.iaload, 1, 0, 0, []) := rfl
theorem zr_202_167 : z_co 202 167 = (.aload_n 0, 1, 0, 0, []) := rfl
theorem zr_202_168 : z_co 202 168 = (.iload_n 2, 1, 0, 0, []) := rfl
theorem zr_202_169 : z_co 202 169 = (.iload_n 3, 1, 0, 0, []) := rfl
theorem zr_202_170 : z_co 202 170 = (.invokevirtual 347, 3, 203, 0, [1424, 1426, 55]) := rfl
theorem zr_202_173 : z_co 202 173 = (.ifCond .eq 9, 3, 0, 0, []) := rfl
theorem zr_202_176 : z_co 202 176 = (.iconst 1, 1, 0, 0, []) := rfl
theorem zr_202_177 : z_co 202 177 = (.iload_n 3, 1, 0, 0, []) := rfl
theorem zr_202_178 : z_co 202 178 = (.ishl, 1, 0, 0, []) := rfl
theorem zr_202_179 : z_co 202 179 = (.goto 4, 3, 0, 0, []) := rfl
theorem zr_202_182 : z_co 202 182 = (.iconst 0, 1, 0, 0, []) := rfl
theorem zr_202_183 : z_co 202 183 = (.ior, 1, 0, 0, []) := rfl
theorem zr_202_184 : z_co 202 184 = (.iastore, 1, 0, 0, []) := rfl
theorem zr_202_185 : z_co 202 185 = (.iinc 3 1, 3, 0, 0, []) := rfl
theorem zr_202_188 : z_co 202 188 = (.goto (-36), 3, 0, 0, []) := rfl
theorem zr_202_191 : z_co 202 191 = (.iinc 2 1, 3, 0, 0, []) := rfl
theorem zr_202_194 : z_co 202 194 = (.goto (-61), 3, 0, 0, []) := rfl
theorem zr_202_197 : z_co 202 197 = (.return_, 1, 0, 0, []) := rfl
theorem zr_203_0 : z_co 203 0 = (.aload_n 0, 1, 0, 0, []) := rfl
theorem zr_203_1 : z_co 203 1 = (.getfield 73, 3, 12, 32, [1222]) := rfl
theorem zr_203_4 : z_co 203 4 = (.iload_n 2, 1, 0, 0, []) := rfl
theorem zr_203_5 : z_co 203 5 = (.iaload, 1, 0, 0, []) := rfl
theorem zr_203_6 : z_co 203 6 = (.istore_n 3, 1, 0, 0, []) := rfl
theorem zr_203_7 : z_co 203 7 = (.aload_n 0, 1, 0, 0, []) := rfl
theorem zr_203_8 : z_co 203 8 = (.getfield 13, 3, 12, 3, [1193]) := rfl
theorem zr_203_11 : z_co 203 11 = (.bipush 56, 2, 0, 0, []) := rfl
theorem zr_203_13 : z_co 203 13 = (.iconst 2, 1, 0, 0, []) := rfl
theorem zr_203_14 : z_co 203 14 = (.iload_n 1, 1, 0, 0, []) := rfl
theorem zr_203_15 : z_co 203 15 = (.imul, 1, 0, 0, []) := rfl
theorem zr_203_16 : z_co 203 16 = (.iadd, 1, 0, 0, []) := rfl
theorem zr_203_17 : z_co 203 17 = (.iconst 1, 1, 0, 0, []) := rfl
theorem zr_203_18 : z_co 203 18 = (.iadd, 1, 0, 0, []) := rfl
theorem zr_203_19 : z_co 203 19 = (.iaload, 1, 0, 0, []) := rfl
theorem zr_203_20 : z_co 203 20 = (.istore 4, 2, 0, 0, []) := rfl
theorem zr_203_22 : z_co 203 22 = (.aload_n 0, 1, 0, 0, []) := rfl
theorem zr_203_23 : z_co 203 23 = (.iload_n 3, 1, 0, 0, []) := rfl
theorem zr_203_24 : z_co 203 24 = (.iconst 1, 1, 0, 0, []) := rfl
theorem zr_203_25 : z_co 203 25 = (.invokevirtual 161, 3, 157, 0, [1420, 1422, 54]) := rfl
theorem zr_203_28 : z_co 203 28 = (.i2l, 1, 0, 0, []) := rfl
theorem zr_203_29 : z_co 203 29 = (.lstore 5, 2, 0, 0, []) := rfl
theorem zr_203_31 : z_co 203 31 = (.aload_n 0, 1, 0, 0, []) := rfl
theorem zr_203_32 : z_co 203 32 = (.getfield 13, 3, 12, 3, [1193]) := rfl
theorem zr_203_35 : z_co 203 35 = (.iconst 3, 1, 0, 0, []) := rfl
theorem zr_203_36 : z_co 203 36 = (.iaload, 1, 0, 0, []) := rfl
theorem zr_203_37 : z_co 203 37 = (.iconst (-1), 1, 0, 0, []) := rfl
theorem zr_203_38 : z_co 203 38 = (.if_icmp .eq 189, 3, 0, 0, []) := rfl
theorem zr_203_41 : z_co 203 41 = (.aload_n 0, 1, 0, 0, []) := rfl
theorem zr_203_42 : z_co 203 42 = (.bipush 90, 2, 0, 0, []) := rfl
theorem zr_203_44 : z_co 203 44 = (.sipush 900, 3, 0, 0, []) := rfl
theorem zr_203_47 : z_co 203 47 = (.aload_n 0, 1, 0, 0, []) := rfl
theorem zr_203_48 : z_co 203 48 = (.getfield 13, 3, 12, 3, [1193]) := rfl
theorem zr_203_51 : z_co 203 51 = (.iconst 3, 1, 0, 0, []) := rfl
theorem zr_203_52 : z_co 203 52 = (.iaload, 1, 0, 0, []) := rfl
theorem zr_203_53 : z_co 203 53 = (.imul, 1, 0, 0, []) := rfl
theorem zr_203_54 : z_co 203 54 = (.iadd, 1, 0, 0, []) := rfl
theorem zr_203_55 : z_co 203 55 = (.putfield 321, 3, 12, 26, [1216]) := rfl
theorem zr_203_58 : z_co 203 58 = (.aload_n 0, 1, 0, 0, []) := rfl
theorem zr_203_59 : z_co 203 59 = (.getfield 67, 3, 12, 27, [1217]) := rfl
theorem zr_203_62 : z_co 203 62 = (.iconst 1, 1, 0, 0, []) := rfl
theorem zr_203_63 : z_co 203 63 = (.iload_n 1, 1, 0, 0, []) := rfl
theorem zr_203_64 : z_co 203 64 = (.i2l, 1, 0, 0, []) := rfl
theorem zr_203_65 : z_co 203 65 = (.lastore, 1, 0, 0, []) := rfl
theorem zr_203_66 : z_co 203 66 = (.aload_n 0, 1, 0, 0, []) := rfl
theorem zr_203_67 : z_co 203 67 = (.getfield 67, 3, 12, 27, [1217]) := rfl
theorem zr_203_70 : z_co 203 70 = (.iconst 2, 1, 0, 0, []) := rfl
theorem zr_203_71 : z_co 203 71 = (.iload_n 2, 1, 0, 0, []) := rfl
theorem zr_203_72 : z_co 203 72 = (.i2l, 1, 0, 0, []) := rfl
theorem zr_203_73 : z_co 203 73 = (.lastore, 1, 0, 0, []) := rfl
theorem zr_203_74 : z_co 203 74 = (.aload_n 0, 1, 0, 0, []) := rfl
theorem zr_203_75 : z_co 203 75 = (.getfield 67, 3, 12, 27, [1217]) := rfl
theorem zr_203_78 : z_co 203 78 = (.iconst 3, 1, 0, 0, []) := rfl
theorem zr_203_79 : z_co 203 79 = (.aload_n 0, 1, 0, 0, []) := rfl
theorem zr_203_80 : z_co 203 80 = (.iload_n 3, 1, 0, 0, []) := rfl
theorem zr_203_81 : z_co 203 81 = (.iconst 0, 1, 0, 0, []) := rfl
theorem zr_203_82 : z_co 203 82 = (.invokevirtual 161, 3, 157, 0, [1420, 1422, 54]) := rfl
theorem zr_203_85 : z_co 203 85 = (.i2l, 1, 0, 0, []) := rfl
theorem zr_203_86 : z_co 203 86 = (.lastore, 1, 0, 0, []) := rfl
theorem zr_203_87 : z_co 203 87 = (.aload_n 0, 1, 0, 0, []) := rfl
theorem zr_203_88 : z_co 203 88 = (.getfield 67, 3, 12, 27, [1217]) := rfl
theorem zr_203_91 : z_co 203 91 = (.iconst 4, 1, 0, 0, []) := rfl
theorem zr_203_92 : z_co 203 92 = (.aload_n 0, 1, 0, 0, []) := rfl
theorem zr_203_93 : z_co 203 93 = (.getfield 76, 3, 12, 33, [1223]) := rfl
theorem zr_203_96 : z_co 203 96 = (.iload_n 2, 1, 0, 0, []) := rfl
theorem zr_203_97 : z_co 203 97 = (.iaload, 1, 0, 0, []) := rfl
theorem zr_203_98 : z_co 203 98 = (.i2l, 1, 0, 0, []) := rfl
theorem zr_203_99 : z_co 203 99 = (.lastore, 1, 0, 0, []) := rfl
theorem zr_203_100 : z_co 203 100 = (.aload_n 0, 1, 0, 0, []) := rfl
theorem zr_203_101 : z_co 203 101 = (.getfield 67, 3, 12, 27, [1217]) := rfl
theorem zr_203_104 : z_co 203 104 = (.iconst 5, 1, 0, 0, []) := rfl
theorem zr_203_105 : z_co 203 105 = (.iload 4, 2, 0, 0, []) := rfl
theorem zr_203_107 : z_co 203 107 = (.i2l, 1, 0, 0, []) := rfl
theorem zr_203_108 : z_co 203 108 = (.lastore, 1, 0, 0, []) := rfl
theorem zr_203_109 : z_co 203 109 = (.aload_n 0, 1, 0, 0, []) := rfl
theorem zr_203_110 : z_co 203 110 = (.getfield 67, 3, 12, 27, [1217]) := rfl
theorem zr_203_113 : z_co 203 113 = (.bipush 6, 2, 0, 0, []) := rfl
theorem zr_203_115 : z_co 203 115 = (.aload_n 0, 1, 0, 0, []) := rfl
theorem zr_203_116 : z_co 203 116 = (.iload_n 1, 1, 0, 0, []) := rfl
theorem zr_203_117 : z_co 203 117 = (.invokevirtual 350, 3, 158, 0, [1428, 1430, 56]) := rfl
theorem zr_203_120 : z_co 203 120 = (.i2l, 1, 0, 0, []) := rfl
theorem zr_203_121 : z_co 203 121 = (.lastore, 1, 0, 0, []) := rfl
theorem zr_203_122 : z_co 203 122 = (.aload_n 0, 1, 0, 0, []) := rfl
theorem zr_203_123 : z_co 203 123 = (.getfield 67, 3, 12, 27, [1217]) := rfl
theorem zr_203_126 : z_co 203 126 = (.bipush 7, 2, 0, 0, []) := rfl
theorem zr_203_128 : z_co 203 128 = (.aload_n 0, 1, 0, 0, []) := rfl
theorem zr_203_129 : z_co 203 129 = (.getfield 13, 3, 12, 3, [1193]) := rfl
theorem zr_203_132 : z_co 203 132 = (.bipush 6, 2, 0, 0, []) := rfl
theorem zr_203_134 : z_co 203 134 = (.iaload, 1, 0, 0, []) := rfl
theorem zr_203_135 : z_co 203 135 = (.i2l, 1, 0, 0, []) := rfl
theorem zr_203_136 : z_co 203 136 = (.lastore, 1, 0, 0, []) := rfl
theorem zr_203_137 : z_co 203 137 = (.aload_n 0, 1, 0, 0, []) := rfl
theorem zr_203_138 : z_co 203 138 = (.getfield 67, 3, 12, 27, [1217]) := rfl
theorem zr_203_141 : z_co 203 141 = (.bipush 8, 2, 0, 0, []) := rfl
theorem zr_203_143 : z_co 203 143 = (.aload_n 0, 1, 0, 0, []) := rfl
theorem zr_203_144 : z_co 203 144 = (.iload_n 3, 1, 0, 0, []) := rfl
theorem zr_203_145 : z_co 203 145 = (.iconst 2, 1, 0, 0, []) := rfl
theorem zr_203_146 : z_co 203 146 = (.invokevirtual 161, 3, 157, 0, [1420, 1422, 54]) := rfl
theorem zr_203_149 : z_co 203 149 = (.i2l, 1, 0, 0, []) := rfl
theorem zr_203_150 : z_co 203 150 = (.lastore, 1, 0, 0, []) := rfl
theorem zr_203_151 : z_co 203 151 = (.aload_n 0, 1, 0, 0, []) := rfl
theorem zr_203_152 : z_co 203 152 = (.getfield 67, 3, 12, 27, [1217]) := rfl
theorem zr_203_155 : z_co 203 155 = (.bipush 9, 2, 0, 0, []) := rfl
theorem zr_203_157 : z_co 203 157 = (.lload 5, 2, 0, 0, []) := rfl
theorem zr_203_159 : z_co 203 159 = (.lastore, 1, 0, 0, []) := rfl
theorem zr_203_160 : z_co 203 160 = (.iconst 0, 1, 0, 0, []) := rfl
theorem zr_203_161 : z_co 203 161 = (.istore 7, 2, 0, 0, []) := rfl
theorem zr_203_163 : z_co 203 163 = (.iload 7, 2, 0, 0, []) := rfl
theorem zr_203_165 : z_co 203 165 = (.aload_n 0, 1, 0, 0, []) := rfl
theorem zr_203_166 : z_co 203 166 = (.getfield 13, 3, 12, 3, [1193]) := rfl
theorem zr_203_169 : z_co 203 169 = (.aload_n 0, 1, 0, 0, []) := rfl
theorem zr_203_170 : z_co 203 170 = (.getfield 321, 3, 12, 26, [1216]) := rfl
theorem zr_203_173 : z_co 203 173 = (.iconst 1, 1, 0, 0, []) := rfl
theorem zr_203_174 : z_co 203 174 = (.iadd, 1, 0, 0, []) := rfl
theorem zr_203_175 : z_co 203 175 = (.iaload, 1, 0, 0, []) := rfl
theorem zr_203_176 : z_co 203 176 = (.if_icmp .ge 51, 3, 0, 0, []) := rfl
theorem zr_203_179 : z_co 203 179 = (.aload_n 0, 1, 0, 0, []) := rfl
theorem zr_203_180 : z_co 203 180 = (.getfield 321, 3, 12, 26, [1216]) := rfl
theorem zr_203_183 : z_co 203 183 = (.iconst 2, 1, 0, 0, []) := rfl
theorem zr_203_184 : z_co 203 184 = (.iadd, 1, 0, 0, []) := rfl
theorem zr_203_185 : z_co 203 185 = (.bipush 8, 2, 0, 0, []) := rfl
theorem zr_203_187 : z_co 203 187 = (.iload 7, 2, 0, 0, []) := rfl
theorem zr_203_189 : z_co 203 189 = (.imul, 1, 0, 0, []) := rfl
theorem zr_203_190 : z_co 203 190 = (.iadd, 1, 0, 0, []) := rfl
theorem zr_203_191 : z_co 203 191 = (.istore 8, 2, 0, 0, []) := rfl
theorem zr_203_193 : z_co 203 193 = (.aload_n 0, 1, 0, 0, []) := rfl
theorem zr_203_194 : z_co 203 194 = (.iload 8, 2, 0, 0, []) := rfl
theorem zr_203_196 : z_co 203 196 = (.invokevirtual 353, 3, 200, 0, [1432, 1434, 57]) := rfl
theorem zr_203_199 : z_co 203 199 = (.ifCond .eq 22, 3, 0, 0, []) := rfl
theorem zr_203_202 : z_co 203 202 = (.aload_n 0, 1, 0, 0, []) := rfl
theorem zr_203_203 : z_co 203 203 = (.getfield 13, 3, 12, 3, [1193]) := rfl
theorem zr_203_206 : z_co 203 206 = (.iload 8, 2, 0, 0, []) := rfl
theorem zr_203_208 : z_co 203 208 = (.iaload, 1, 0, 0, []) := rfl
theorem zr_203_209 : z_co 203 209 = (.iconst 1, 1, 0, 0, []) := rfl
theorem zr_203_210 : z_co 203 210 = (.if_icmp .ne 5, 3, 0, 0, []) := rfl
theorem zr_203_213 : z_co 203 213 = (.iconst 0, 1, 0, 0, []) := rfl
theorem zr_203_214 : z_co 203 214 = (.ireturn, 1, 0, 0, []) := rfl
theorem zr_203_215 : z_co 203 215 = (.aload_n 0, 1, 0, 0, []) := rfl
theorem zr_203_216 : z_co 203 216 = (.getfield 338, 3, 12, 31, [1221]) := rfl
theorem zr_203_219 : z_co 203 219 = (.lstore 5, 2, 0, 0, []) := rfl
theorem zr_203_221 : z_co 203 221 = (.iinc 7 1, 3, 0, 0, []) := rfl
theorem zr_203_224 : z_co 203 224 = (.goto (-61), 3, 0, 0, []) := rfl
theorem zr_203_227 : z_co 203 227 = (.lload 5, 2, 0, 0, []) := rfl
theorem zr_203_229 : z_co 203 229 = (.iload 4, 2, 0, 0, []) := rfl
theorem zr_203_231 : z_co 203 231 = (.i2l, 1, 0, 0, []) := rfl
theorem zr_203_232 : z_co 203 232 = (.lcmp, 1, 0, 0, []) := rfl
theorem zr_203_233 : z_co 203 233 = (.ifCond .lt 7, 3, 0, 0, []) := rfl
theorem zr_203_236 : z_co 203 236 = (.iconst 1, 1, 0, 0, []) := rfl
theorem zr_203_237 : z_co 203 237 = (.goto 4, 3, 0, 0, []) := rfl
theorem zr_203_240 : z_co 203 240 = (.iconst 0, 1, 0, 0, []) := rfl
theorem zr_203_241 : z_co 203 241 = (.ireturn, 1, 0, 0, []) := rfl
theorem zr_204_0 : z_co 204 0 = (.aload_n 0, 1, 0, 0, []) := rfl
theorem zr_204_1 : z_co 204 1 = (.iconst 0, 1, 0, 0, []) := rfl
theorem zr_204_2 : z_co 204 2 = (.putfield 115, 3, 12, 0, [1190]) := rfl
theorem zr_204_5 : z_co 204 5 = (.aload_n 0, 1, 0, 0, []) := rfl
theorem zr_204_6 : z_co 204 6 = (.iload_n 1, 1, 0, 0, []) := rfl
theorem zr_204_7 : z_co 204 7 = (.invokevirtual 148, 3, 155, 0, [1395, 1397, 49]) := rfl
theorem zr_204_10 : z_co 204 10 = (.ifCond .eq 11, 3, 0, 0, []) := rfl
theorem zr_204_13 : z_co 204 13 = (.aload_n 0, 1, 0, 0, []) := rfl
theorem zr_204_14 : z_co 204 14 = (.iload_n 2, 1, 0, 0, []) := rfl
theorem zr_204_15 : z_co 204 15 = (.invokevirtual 169, 3, 156, 0, [1458, 1460, 60]) := rfl
theorem zr_204_18 : z_co 204 18 = (.ifCond .ne 5, 3, 0, 0, []) := rfl
theorem zr_204_21 : z_co 204 21 = (.iconst (-1), 1, 0, 0, []) := rfl
theorem zr_204_22 : z_co 204 22 = (.ireturn, 1, 0, 0, []) := rfl
theorem zr_204_23 : z_co 204 23 = (.aload_n 0, 1, 0, 0, []) := rfl
theorem zr_204_24 : z_co 204 24 = (.invokevirtual 158, 3, 201, 0, [1412, 1414, 52]) := rfl
theorem zr_204_27 : z_co 204 27 = (.aload_n 0, 1, 0, 0, []) := rfl
theorem zr_204_28 : z_co 204 28 = (.getfield 79, 3, 12, 34, [1224]) := rfl
theorem zr_204_31 : z_co 204 31 = (.iload_n 2, 1, 0, 0, []) := rfl
theorem zr_204_32 : z_co 204 32 = (.iaload, 1, 0, 0, []) := rfl
theorem zr_204_33 : z_co 204 33 = (.iload_n 1, 1, 0, 0, []) := rfl
theorem zr_204_34 : z_co 204 34 = (.ishr, 1, 0, 0, []) := rfl
theorem zr_204_35 : z_co 204 35 = (.iconst 1, 1, 0, 0, []) := rfl
theorem zr_204_36 : z_co 204 36 = (.iand, 1, 0, 0, []) := rfl
theorem zr_204_37 : z_co 204 37 = (.ireturn, 1, 0, 0, []) := rfl
theorem zr_205_0 : z_co 205 0 = (.iload_n 1, 1, 0, 0, []) := rfl
theorem zr_205_1 : z_co 205 1 = (.ifCond .ne 7, 3, 0, 0, []) := rfl
theorem zr_205_4 : z_co 205 4 = (.iconst 0, 1, 0, 0, []) := rfl
theorem zr_205_5 : z_co 205 5 = (.goto 11, 3, 0, 0, []) := rfl
theorem zr_205_8 : z_co 205 8 = (.aload_n 0, 1, 0, 0, []) := rfl
theorem zr_205_9 : z_co 205 9 = (.getfield 76, 3, 12, 33, [1223]) := rfl
theorem zr_205_12 : z_co 205 12 = (.iload_n 1, 1, 0, 0, []) := rfl
theorem zr_205_13 : z_co 205 13 = (.iconst 1, 1, 0, 0, []) := rfl
theorem zr_205_14 : z_co 205 14 = (.isub, 1, 0, 0, []) := rfl
theorem zr_205_15 : z_co 205 15 = (.iaload, 1, 0, 0, []) := rfl
theorem zr_205_16 : z_co 205 16 = (.ireturn, 1, 0, 0, []) := rfl
theorem zr_206_0 : z_co 206 0 = (.aload_n 0, 1, 0, 0, []) := rfl
theorem zr_206_1 : z_co 206 1 = (.iload_n 3, 1, 0, 0, []) := rfl
theorem zr_206_2 : z_co 206 2 = (.invokevirtual 356, 3, 205, 0, [1622, 1624, 84]) := rfl
theorem zr_206_5 : z_co 206 5 = (.aload_n 0, 1, 0, 0, []) := rfl
theorem zr_206_6 : z_co 206 6 = (.iload_n 2, 1, 0, 0, []) := rfl
theorem zr_206_7 : z_co 206 7 = (.invokevirtual 356, 3, 205, 0, [1622, 1624, 84]) := rfl
theorem zr_206_10 : z_co 206 10 = (.isub, 1, 0, 0, []) := rfl
theorem zr_206_11 : z_co 206 11 = (.istore 4, 2, 0, 0, []) := rfl
theorem zr_206_13 : z_co 206 13 = (.iload 4, 2, 0, 0, []) := rfl
theorem zr_206_15 : z_co 206 15 = (.ifCond .le 21, 3, 0, 0, []) := rfl
theorem zr_206_18 : z_co 206 18 = (.iload 4, 2, 0, 0, []) := rfl
theorem zr_206_20 : z_co 206 20 = (.aload_n 0, 1, 0, 0, []) := rfl
theorem zr_206_21 : z_co 206 21 = (.iload_n 1, 1, 0, 0, []) := rfl
theorem zr_206_22 : z_co 206 22 = (.invokevirtual 350, 3, 158, 0, [1428, 1430, 56]) := rfl
theorem zr_206_25 : z_co 206 25 = (.if_icmp .gt 7, 3, 0, 0, []) := rfl
theorem zr_206_28 : z_co 206 28 = (.iconst 1, 1, 0, 0, []) := rfl
theorem zr_206_29 : z_co 206 29 = (.goto 31, 3, 0, 0, []) := rfl
theorem zr_206_32 : z_co 206 32 = (.iconst 0, 1, 0, 0, []) := rfl
theorem zr_206_33 : z_co 206 33 = (.goto 27, 3, 0, 0, []) := rfl
theorem zr_206_36 : z_co 206 36 = (.iload 4, 2, 0, 0, []) := rfl
theorem zr_206_38 : z_co 206 38 = (.ineg, 1, 0, 0, []) := rfl
theorem zr_206_39 : z_co 206 39 = (.aload_n 0, 1, 0, 0, []) := rfl
theorem zr_206_40 : z_co 206 40 = (.iload_n 1, 1, 0, 0, []) := rfl
theorem zr_206_41 : z_co 206 41 = (.invokevirtual 350, 3, 158, 0, [1428, 1430, 56]) := rfl
theorem zr_206_44 : z_co 206 44 = (.aload_n 0, 1, 0, 0, []) := rfl
theorem zr_206_45 : z_co 206 45 = (.getfield 13, 3, 12, 3, [1193]) := rfl
theorem zr_206_48 : z_co 206 48 = (.bipush 7, 2, 0, 0, []) := rfl
theorem zr_206_50 : z_co 206 50 = (.iaload, 1, 0, 0, []) := rfl
theorem zr_206_51 : z_co 206 51 = (.iadd, 1, 0, 0, []) := rfl
theorem zr_206_52 : z_co 206 52 = (.if_icmp .gt 7, 3, 0, 0, []) := rfl
theorem zr_206_55 : z_co 206 55 = (.iconst 1, 1, 0, 0, []) := rfl
theorem zr_206_56 : z_co 206 56 = (.goto 4, 3, 0, 0, []) := rfl
theorem zr_206_59 : z_co 206 59 = (.iconst 0, 1, 0, 0, []) := rfl
theorem zr_206_60 : z_co 206 60 = (.ireturn, 1, 0, 0, []) := rfl
theorem zr_207_0 : z_co 207 0 = (.iconst 0, 1, 0, 0, []) := rfl
theorem zr_207_1 : z_co 207 1 = (.istore 4, 2, 0, 0, []) := rfl
theorem zr_207_3 : z_co 207 3 = (.iload 4, 2, 0, 0, []) := rfl
theorem zr_207_5 : z_co 207 5 = (.bipush 13, 2, 0, 0, []) := rfl
theorem zr_207_7 : z_co 207 7 = (.if_icmp .ge 27, 3, 0, 0, []) := rfl
theorem zr_207_10 : z_co 207 10 = (.aload_n 0, 1, 0, 0, []) := rfl
theorem zr_207_11 : z_co 207 11 = (.getfield 85, 3, 12, 37, [1227]) := rfl
theorem zr_207_14 : z_co 207 14 = (.iload 4, 2, 0, 0, []) := rfl
theorem zr_207_16 : z_co 207 16 = (.iload 4, 2, 0, 0, []) := rfl
theorem zr_207_18 : z_co 207 18 = (.iload_n 2, 1, 0, 0, []) := rfl
theorem zr_207_19 : z_co 207 19 = (.if_icmp .ne 7, 3, 0, 0, []) := rfl
theorem zr_207_22 : z_co 207 22 = (.iconst 0, 1, 0, 0, []) := rfl
theorem zr_207_23 : z_co 207 23 = (.goto 4, 3, 0, 0, []) := rfl
theorem zr_207_26 : z_co 207 26 = (.iconst (-1), 1, 0, 0, []) := rfl
theorem zr_207_27 : z_co 207 27 = (.iastore, 1, 0, 0, []) := rfl
theorem zr_207_28 : z_co 207 28 = (.iinc 4 1, 3, 0, 0, []) := rfl
theorem zr_207_31 : z_co 207 31 = (.goto (-28), 3, 0, 0, []) := rfl
theorem zr_207_34 : z_co 207 34 = (.iconst 0, 1, 0, 0, []) := rfl
theorem zr_207_35 : z_co 207 35 = (.istore 4, 2, 0, 0, []) := rfl
theorem zr_207_37 : z_co 207 37 = (.iload 4, 2, 0, 0, []) := rfl
theorem zr_207_39 : z_co 207 39 = (.bipush 13, 2, 0, 0, []) := rfl
theorem zr_207_41 : z_co 207 41 = (.if_icmp .ge 138, 3, 0, 0, []) := rfl
theorem zr_207_44 : z_co 207 44 = (.iconst 0, 1, 0, 0, []) := rfl
theorem zr_207_45 : z_co 207 45 = (.istore 5, 2, 0, 0, []) := rfl
theorem zr_207_47 : z_co 207 47 = (.iload 5, 2, 0, 0, []) := rfl
theorem zr_207_49 : z_co 207 49 = (.aload_n 0, 1, 0, 0, []) := rfl
theorem zr_207_50 : z_co 207 50 = (.invokevirtual 132, 3, 154, 0, [1383, 1385, 47]) := rfl
theorem zr_207_53 : z_co 207 53 = (.if_icmp .gt 120, 3, 0, 0, []) := rfl
theorem zr_207_56 : z_co 207 56 = (.iconst 0, 1, 0, 0, []) := rfl
theorem zr_207_57 : z_co 207 57 = (.istore 6, 2, 0, 0, []) := rfl
theorem zr_207_59 : z_co 207 59 = (.iload 6, 2, 0, 0, []) := rfl
theorem zr_207_61 : z_co 207 61 = (.aload_n 0, 1, 0, 0, []) := rfl
theorem zr_207_62 : z_co 207 62 = (.invokevirtual 132, 3, 154, 0, [1383, 1385, 47]) := rfl
theorem zr_207_65 : z_co 207 65 = (.if_icmp .gt 102, 3, 0, 0, []) := rfl
theorem zr_207_68 : z_co 207 68 = (.aload_n 0, 1, 0, 0, []) := rfl
theorem zr_207_69 : z_co 207 69 = (.getfield 85, 3, 12, 37, [1227]) := rfl
theorem zr_207_72 : z_co 207 72 = (.iload 5, 2, 0, 0, []) := rfl
theorem zr_207_74 : z_co 207 74 = (.iaload, 1, 0, 0, []) := rfl
theorem zr_207_75 : z_co 207 75 = (.iload 4, 2, 0, 0, []) := rfl
theorem zr_207_77 : z_co 207 77 = (.if_icmp .ne 90, 3, 0, 0, []) := rfl
theorem zr_207_80 : z_co 207 80 = (.iload 6, 2, 0, 0, []) := rfl
theorem zr_207_82 : z_co 207 82 = (.ifCond .eq 23, 3, 0, 0, []) := rfl
theorem zr_207_85 : z_co 207 85 = (.iload_n 3, 1, 0, 0, []) := rfl
theorem zr_207_86 : z_co 207 86 = (.iload 6, 2, 0, 0, []) := rfl
theorem zr_207_88 : z_co 207 88 = (.ifCond .ne 7, 3, 0, 0, []) := rfl
theorem zr_207_91 : z_co 207 91 = (.iconst 0, 1, 0, 0, []) := rfl
theorem zr_207_92 : z_co 207 92 = (.goto 7, 3, 0, 0, []) := rfl
theorem zr_207_95 : z_co 207 95 = (.iload 6, 2, 0, 0, []) := rfl
theorem zr_207_97 : z_co 207 97 = (.iconst 1, 1, 0, 0, []) := rfl
theorem zr_207_98 : z_co 207 98 = (.isub, 1, 0, 0, []) := rfl
theorem zr_207_99 : z_co 207 99 = (.invokestatic 359, 3, 146, 0, [1615, 1616]) := rfl
theorem zr_207_102 : z_co 207 102 = (.ifCond .eq 7, 3, 0, 0, []) := rfl
theorem zr_207_105 : z_co 207 105 = (.iconst 1, 1, 0, 0, []) := rfl
theorem zr_207_106 : z_co 207 106 = (.goto 4, 3, 0, 0, []) := rfl
theorem zr_207_109 : z_co 207 109 = (.iconst 0, 1, 0, 0, []) := rfl
theorem zr_207_110 : z_co 207 110 = (.istore 7, 2, 0, 0, []) := rfl
theorem zr_207_112 : z_co 207 112 = (.aload_n 0, 1, 0, 0, []) := rfl
theorem zr_207_113 : z_co 207 113 = (.getfield 85, 3, 12, 37, [1227]) := rfl
theorem zr_207_116 : z_co 207 116 = (.iload 6, 2, 0, 0, []) := rfl
theorem zr_207_118 : z_co 207 118 = (.aload_n 0, 1, 0, 0, []) := rfl
theorem zr_207_119 : z_co 207 119 = (.getfield 85, 3, 12, 37, [1227]) := rfl
theorem zr_207_122 : z_co 207 122 = (.iload 6, 2, 0, 0, []) := rfl
theorem zr_207_124 : z_co 207 124 = (.iaload, 1, 0, 0, []) := rfl
theorem zr_207_125 : z_co 207 125 = (.iconst (-1), 1, 0, 0, []) := rfl
theorem zr_207_126 : z_co 207 126 = (.if_icmp .ne 27, 3, 0, 0, []) := rfl
theorem zr_207_129 : z_co 207 129 = (.iload 7, 2, 0, 0, []) := rfl
theorem zr_207_131 : z_co 207 131 = (.ifCond .eq 22, 3, 0, 0, []) := rfl
theorem zr_207_134 : z_co 207 134 = (.aload_n 0, 1, 0, 0, []) := rfl
theorem zr_207_135 : z_co 207 135 = (.iload_n 1, 1, 0, 0, []) := rfl
theorem zr_207_136 : z_co 207 136 = (.iload 5, 2, 0, 0, []) := rfl
theorem zr_207_138 : z_co 207 138 = (.iload 6, 2, 0, 0, []) := rfl
theorem zr_207_140 : z_co 207 140 = (.invokevirtual 362, 3, 206, 0, [1618, 1620, 83]) := rfl
theorem zr_207_143 : z_co 207 143 = (.ifCond .eq 10, 3, 0, 0, []) := rfl
theorem zr_207_146 : z_co 207 146 = (.iload 4, 2, 0, 0, []) := rfl
theorem zr_207_148 : z_co 207 148 = (.iconst 1, 1, 0, 0, []) := rfl
theorem zr_207_149 : z_co 207 149 = (.iadd, 1, 0, 0, []) := rfl
theorem zr_207_150 : z_co 207 150 = (.goto 10, 3, 0, 0, []) := rfl
theorem zr_207_153 : z_co 207 153 = (.aload_n 0, 1, 0, 0, []) := rfl
theorem zr_207_154 : z_co 207 154 = (.getfield 85, 3, 12, 37, [1227]) := rfl
theorem zr_207_157 : z_co 207 157 = (.iload 6, 2, 0, 0, []) := rfl
theorem zr_207_159 : z_co 207 159 = (.iaload, 1, 0, 0, []) := rfl
theorem zr_207_160 : z_co 207 160 = (.iastore, 1, 0, 0, []) := rfl
theorem zr_207_161 : z_co 207 161 = (.iinc 6 1, 3, 0, 0, []) := rfl
theorem zr_207_164 : z_co 207 164 = (.goto (-105), 3, 0, 0, []) := rfl
theorem zr_207_167 : z_co 207 167 = (.iinc 5 1, 3, 0, 0, []) := rfl
theorem zr_207_170 : z_co 207 170 = (.goto (-123), 3, 0, 0, []) := rfl
theorem zr_207_173 : z_co 207 173 = (.iinc 4 1, 3, 0, 0, []) := rfl
theorem zr_207_176 : z_co 207 176 = (.goto (-139), 3, 0, 0, []) := rfl
theorem zr_207_179 : z_co 207 179 = (.return_, 1, 0, 0, []) := rfl
