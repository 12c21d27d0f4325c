/-! the rows: printed by a program -/
theorem zr_243_0 : z_co 243 0 = (.aload_n 0, 1, 0, 0, []) := rfl
theorem zr_243_1 : z_co 243 1 = (.iconst 0, 1, 0, 0, []) := rfl
theorem zr_243_2 : z_co 243 2 = (.putfield 115, 3, 12, 0, [1190]) := rfl
theorem zr_243_5 : z_co 243 5 = (.iload_n 1, 1, 0, 0, []) := rfl
theorem zr_243_6 : z_co 243 6 = (.i2l, 1, 0, 0, []) := rfl
theorem zr_243_7 : z_co 243 7 = (.lconst 0, 1, 0, 0, []) := rfl
theorem zr_243_8 : z_co 243 8 = (.ldc2_w 455, 3, 8, 0, [1770]) := rfl
theorem zr_243_11 : z_co 243 11 = (.invokestatic 125, 3, 145, 0, [1363, 1364]) := rfl
theorem zr_243_14 : z_co 243 14 = (.ifCond .eq 12, 3, 0, 0, []) := rfl
theorem zr_243_17 : z_co 243 17 = (.aload_n 0, 1, 0, 0, []) := rfl
theorem zr_243_18 : z_co 243 18 = (.getfield 13, 3, 12, 3, [1193]) := rfl
theorem zr_243_21 : z_co 243 21 = (.iconst 5, 1, 0, 0, []) := rfl
theorem zr_243_22 : z_co 243 22 = (.iaload, 1, 0, 0, []) := rfl
theorem zr_243_23 : z_co 243 23 = (.ifCond .ne 5, 3, 0, 0, []) := rfl
theorem zr_243_26 : z_co 243 26 = (.iconst (-1), 1, 0, 0, []) := rfl
theorem zr_243_27 : z_co 243 27 = (.ireturn, 1, 0, 0, []) := rfl
theorem zr_243_28 : z_co 243 28 = (.iconst 0, 1, 0, 0, []) := rfl
theorem zr_243_29 : z_co 243 29 = (.istore_n 3, 1, 0, 0, []) := rfl
theorem zr_243_30 : z_co 243 30 = (.iconst 0, 1, 0, 0, []) := rfl
theorem zr_243_31 : z_co 243 31 = (.istore 4, 2, 0, 0, []) := rfl
theorem zr_243_33 : z_co 243 33 = (.iload 4, 2, 0, 0, []) := rfl
theorem zr_243_35 : z_co 243 35 = (.aload_n 0, 1, 0, 0, []) := rfl
theorem zr_243_36 : z_co 243 36 = (.getfield 13, 3, 12, 3, [1193]) := rfl
theorem zr_243_39 : z_co 243 39 = (.iconst 5, 1, 0, 0, []) := rfl
theorem zr_243_40 : z_co 243 40 = (.iaload, 1, 0, 0, []) := rfl
theorem zr_243_41 : z_co 243 41 = (.iadd, 1, 0, 0, []) := rfl
theorem zr_243_42 : z_co 243 42 = (.aload_n 0, 1, 0, 0, []) := rfl
theorem zr_243_43 : z_co 243 43 = (.invokevirtual 132, 3, 154, 0, [1383, 1385, 47]) := rfl
theorem zr_243_46 : z_co 243 46 = (.if_icmp .gt 88, 3, 0, 0, []) := rfl
theorem zr_243_49 : z_co 243 49 = (.iconst 1, 1, 0, 0, []) := rfl
theorem zr_243_50 : z_co 243 50 = (.istore 5, 2, 0, 0, []) := rfl
theorem zr_243_52 : z_co 243 52 = (.iconst 0, 1, 0, 0, []) := rfl
theorem zr_243_53 : z_co 243 53 = (.istore 6, 2, 0, 0, []) := rfl
theorem zr_243_55 : z_co 243 55 = (.iload 6, 2, 0, 0, []) := rfl
theorem zr_243_57 : z_co 243 57 = (.aload_n 0, 1, 0, 0, []) := rfl
theorem zr_243_58 : z_co 243 58 = (.getfield 13, 3, 12, 3, [1193]) := rfl
theorem zr_243_61 : z_co 243 61 = (.iconst 5, 1, 0, 0, []) := rfl
theorem zr_243_62 : z_co 243 62 = (.iaload, 1, 0, 0, []) := rfl
theorem zr_243_63 : z_co 243 63 = (.if_icmp .ge 49, 3, 0, 0, []) := rfl
theorem zr_243_66 : z_co 243 66 = (.iload 5, 2, 0, 0, []) := rfl
theorem zr_243_68 : z_co 243 68 = (.ifCond .eq 35, 3, 0, 0, []) := rfl
theorem zr_243_71 : z_co 243 71 = (.aload_n 0, 1, 0, 0, []) := rfl
theorem zr_243_72 : z_co 243 72 = (.iload 4, 2, 0, 0, []) := rfl
theorem zr_243_74 : z_co 243 74 = (.iload 6, 2, 0, 0, []) := rfl
theorem zr_243_76 : z_co 243 76 = (.iadd, 1, 0, 0, []) := rfl
theorem zr_243_77 : z_co 243 77 = (.iconst 0, 1, 0, 0, []) := rfl
theorem zr_243_78 : z_co 243 78 = (.invokevirtual 161, 3, 157, 0, [1420, 1422, 54]) := rfl
theorem zr_243_81 : z_co 243 81 = (.aload_n 0, 1, 0, 0, []) := rfl
theorem zr_243_82 : z_co 243 82 = (.getfield 13, 3, 12, 3, [1193]) := rfl
theorem zr_243_85 : z_co 243 85 = (.bipush 82, 2, 0, 0, []) := rfl
theorem zr_243_87 : z_co 243 87 = (.iload 6, 2, 0, 0, []) := rfl
theorem zr_243_89 : z_co 243 89 = (.iadd, 1, 0, 0, []) := rfl
theorem zr_243_90 : z_co 243 90 = (.iaload, 1, 0, 0, []) := rfl
theorem zr_243_91 : z_co 243 91 = (.isub, 1, 0, 0, []) := rfl
theorem zr_243_92 : z_co 243 92 = (.invokestatic 410, 3, 148, 0, [1699, 1700]) := rfl
theorem zr_243_95 : z_co 243 95 = (.iload_n 1, 1, 0, 0, []) := rfl
theorem zr_243_96 : z_co 243 96 = (.if_icmp .gt 7, 3, 0, 0, []) := rfl
theorem zr_243_99 : z_co 243 99 = (.iconst 1, 1, 0, 0, []) := rfl
theorem zr_243_100 : z_co 243 100 = (.goto 4, 3, 0, 0, []) := rfl
theorem zr_243_103 : z_co 243 103 = (.iconst 0, 1, 0, 0, []) := rfl
theorem zr_243_104 : z_co 243 104 = (.istore 5, 2, 0, 0, []) := rfl
theorem zr_243_106 : z_co 243 106 = (.iinc 6 1, 3, 0, 0, []) := rfl
theorem zr_243_109 : z_co 243 109 = (.goto (-54), 3, 0, 0, []) := rfl
theorem zr_243_112 : z_co 243 112 = (.iload 5, 2, 0, 0, []) := rfl
theorem zr_243_114 : z_co 243 114 = (.ifCond .eq 14, 3, 0, 0, []) := rfl
theorem zr_243_117 : z_co 243 117 = (.iload_n 3, 1, 0, 0, []) := rfl
theorem zr_243_118 : z_co 243 118 = (.iload_n 2, 1, 0, 0, []) := rfl
theorem zr_243_119 : z_co 243 119 = (.if_icmp .ne 6, 3, 0, 0, []) := rfl
theorem zr_243_122 : z_co 243 122 = (.iload 4, 2, 0, 0, []) := rfl
theorem zr_243_124 : z_co 243 124 = (.ireturn, 1, 0, 0, []) := rfl
theorem zr_243_125 : z_co 243 125 = (.iinc 3 1, 3, 0, 0, []) := rfl
theorem zr_243_128 : z_co 243 128 = (.iinc 4 1, 3, 0, 0, []) := rfl
theorem zr_243_131 : z_co 243 131 = (.goto (-98), 3, 0, 0, []) := rfl
theorem zr_243_134 : z_co 243 134 = (.iload_n 2, 1, 0, 0, []) := rfl
theorem zr_243_135 : z_co 243 135 = (.iconst (-1), 1, 0, 0, []) := rfl
theorem zr_243_136 : z_co 243 136 = (.if_icmp .ne 7, 3, 0, 0, []) := rfl
theorem zr_243_139 : z_co 243 139 = (.iload_n 3, 1, 0, 0, []) := rfl
theorem zr_243_140 : z_co 243 140 = (.goto 4, 3, 0, 0, []) := rfl
theorem zr_243_143 : z_co 243 143 = (.iconst (-1), 1, 0, 0, []) := rfl
theorem zr_243_144 : z_co 243 144 = (.ireturn, 1, 0, 0, []) := rfl
theorem zr_244_0 : z_co 244 0 = (.aload_n 0, 1, 0, 0, []) := rfl
theorem zr_244_1 : z_co 244 1 = (.aload_n 0, 1, 0, 0, []) := rfl
theorem zr_244_2 : z_co 244 2 = (.getfield 457, 3, 12, 53, [1243]) := rfl
theorem zr_244_5 : z_co 244 5 = (.ldc2_w 460, 3, 1103, 0, [1779]) := rfl
theorem zr_244_8 : z_co 244 8 = (.lmul, 1, 0, 0, []) := rfl
theorem zr_244_9 : z_co 244 9 = (.ldc2_w 462, 3, 12345, 0, [1780]) := rfl
theorem zr_244_12 : z_co 244 12 = (.ladd, 1, 0, 0, []) := rfl
theorem zr_244_13 : z_co 244 13 = (.ldc2_w 464, 3, 1000003, 0, [1781]) := rfl
theorem zr_244_16 : z_co 244 16 = (.lrem, 1, 0, 0, []) := rfl
theorem zr_244_17 : z_co 244 17 = (.putfield 457, 3, 12, 53, [1243]) := rfl
theorem zr_244_20 : z_co 244 20 = (.aload_n 0, 1, 0, 0, []) := rfl
theorem zr_244_21 : z_co 244 21 = (.getfield 457, 3, 12, 53, [1243]) := rfl
theorem zr_244_24 : z_co 244 24 = (.iload_n 1, 1, 0, 0, []) := rfl
theorem zr_244_25 : z_co 244 25 = (.i2l, 1, 0, 0, []) := rfl
theorem zr_244_26 : z_co 244 26 = (.lrem, 1, 0, 0, []) := rfl
theorem zr_244_27 : z_co 244 27 = (.l2i, 1, 0, 0, []) := rfl
theorem zr_244_28 : z_co 244 28 = (.ireturn, 1, 0, 0, []) := rfl
theorem zr_245_0 : z_co 245 0 = (.aload_n 0, 1, 0, 0, []) := rfl
theorem zr_245_1 : z_co 245 1 = (.iconst 0, 1, 0, 0, []) := rfl
theorem zr_245_2 : z_co 245 2 = (.putfield 115, 3, 12, 0, [1190]) := rfl
theorem zr_245_5 : z_co 245 5 = (.iload_n 1, 1, 0, 0, []) := rfl
theorem zr_245_6 : z_co 245 6 = (.i2l, 1, 0, 0, []) := rfl
theorem zr_245_7 : z_co 245 7 = (.lconst 0, 1, 0, 0, []) := rfl
theorem zr_245_8 : z_co 245 8 = (.ldc2_w 216, 3, 1000000, 0, [1512]) := rfl
theorem zr_245_11 : z_co 245 11 = (.invokestatic 125, 3, 145, 0, [1363, 1364]) := rfl
theorem zr_245_14 : z_co 245 14 = (.ifCond .eq 15, 3, 0, 0, []) := rfl
theorem zr_245_17 : z_co 245 17 = (.iload_n 2, 1, 0, 0, []) := rfl
theorem zr_245_18 : z_co 245 18 = (.i2l, 1, 0, 0, []) := rfl
theorem zr_245_19 : z_co 245 19 = (.lconst 1, 1, 0, 0, []) := rfl
theorem zr_245_20 : z_co 245 20 = (.ldc2_w 239, 3, 20, 0, [1585]) := rfl
theorem zr_245_23 : z_co 245 23 = (.invokestatic 125, 3, 145, 0, [1363, 1364]) := rfl
theorem zr_245_26 : z_co 245 26 = (.ifCond .ne 9, 3, 0, 0, []) := rfl
theorem zr_245_29 : z_co 245 29 = (.aload_n 0, 1, 0, 0, []) := rfl
theorem zr_245_30 : z_co 245 30 = (.iconst (-1), 1, 0, 0, []) := rfl
theorem zr_245_31 : z_co 245 31 = (.invokevirtual 129, 3, 149, 0, [1366, 1368, 46]) := rfl
theorem zr_245_34 : z_co 245 34 = (.ireturn, 1, 0, 0, []) := rfl
theorem zr_245_35 : z_co 245 35 = (.aload_n 0, 1, 0, 0, []) := rfl
theorem zr_245_36 : z_co 245 36 = (.invokevirtual 158, 3, 201, 0, [1412, 1414, 52]) := rfl
theorem zr_245_39 : z_co 245 39 = (.aload_n 0, 1, 0, 0, []) := rfl
theorem zr_245_40 : z_co 245 40 = (.iload_n 1, 1, 0, 0, []) := rfl
theorem zr_245_41 : z_co 245 41 = (.i2l, 1, 0, 0, []) := rfl
theorem zr_245_42 : z_co 245 42 = (.putfield 457, 3, 12, 53, [1243]) := rfl
theorem zr_245_45 : z_co 245 45 = (.aload_n 0, 1, 0, 0, []) := rfl
theorem zr_245_46 : z_co 245 46 = (.iload_n 2, 1, 0, 0, []) := rfl
theorem zr_245_47 : z_co 245 47 = (.putfield 466, 3, 12, 55, [1245]) := rfl
theorem zr_245_50 : z_co 245 50 = (.iconst 0, 1, 0, 0, []) := rfl
theorem zr_245_51 : z_co 245 51 = (.istore_n 3, 1, 0, 0, []) := rfl
theorem zr_245_52 : z_co 245 52 = (.iconst 0, 1, 0, 0, []) := rfl
theorem zr_245_53 : z_co 245 53 = (.istore 4, 2, 0, 0, []) := rfl
theorem zr_245_55 : z_co 245 55 = (.iload 4, 2, 0, 0, []) := rfl
theorem zr_245_57 : z_co 245 57 = (.iload_n 2, 1, 0, 0, []) := rfl
theorem zr_245_58 : z_co 245 58 = (.if_icmp .ge 133, 3, 0, 0, []) := rfl
theorem zr_245_61 : z_co 245 61 = (.aload_n 0, 1, 0, 0, []) := rfl
theorem zr_245_62 : z_co 245 62 = (.invokevirtual 413, 3, 221, 0, [1683, 1685, 91]) := rfl
theorem zr_245_65 : z_co 245 65 = (.iconst 0, 1, 0, 0, []) := rfl
theorem zr_245_66 : z_co 245 66 = (.istore 5, 2, 0, 0, []) := rfl
theorem zr_245_68 : z_co 245 68 = (.iconst 0, 1, 0, 0, []) := rfl
theorem zr_245_69 : z_co 245 69 = (.istore 6, 2, 0, 0, []) := rfl
theorem zr_245_71 : z_co 245 71 = (.iload 6, 2, 0, 0, []) := rfl
theorem zr_245_73 : z_co 245 73 = (.bipush 6, 2, 0, 0, []) := rfl
theorem zr_245_75 : z_co 245 75 = (.if_icmp .ge 64, 3, 0, 0, []) := rfl
theorem zr_245_78 : z_co 245 78 = (.aload_n 0, 1, 0, 0, []) := rfl
theorem zr_245_79 : z_co 245 79 = (.getfield 13, 3, 12, 3, [1193]) := rfl
theorem zr_245_82 : z_co 245 82 = (.iconst 1, 1, 0, 0, []) := rfl
theorem zr_245_83 : z_co 245 83 = (.iaload, 1, 0, 0, []) := rfl
theorem zr_245_84 : z_co 245 84 = (.ifCond .le 55, 3, 0, 0, []) := rfl
theorem zr_245_87 : z_co 245 87 = (.aload_n 0, 1, 0, 0, []) := rfl
theorem zr_245_88 : z_co 245 88 = (.invokevirtual 132, 3, 154, 0, [1383, 1385, 47]) := rfl
theorem zr_245_91 : z_co 245 91 = (.ifCond .le 48, 3, 0, 0, []) := rfl
theorem zr_245_94 : z_co 245 94 = (.aload_n 0, 1, 0, 0, []) := rfl
theorem zr_245_95 : z_co 245 95 = (.aload_n 0, 1, 0, 0, []) := rfl
theorem zr_245_96 : z_co 245 96 = (.getfield 13, 3, 12, 3, [1193]) := rfl
theorem zr_245_99 : z_co 245 99 = (.iconst 1, 1, 0, 0, []) := rfl
theorem zr_245_100 : z_co 245 100 = (.iaload, 1, 0, 0, []) := rfl
theorem zr_245_101 : z_co 245 101 = (.invokevirtual 469, 3, 244, 0, [1775, 1777, 102]) := rfl
theorem zr_245_104 : z_co 245 104 = (.istore 7, 2, 0, 0, []) := rfl
theorem zr_245_106 : z_co 245 106 = (.iload 5, 2, 0, 0, []) := rfl
theorem zr_245_108 : z_co 245 108 = (.aload_n 0, 1, 0, 0, []) := rfl
theorem zr_245_109 : z_co 245 109 = (.iload 7, 2, 0, 0, []) := rfl
theorem zr_245_111 : z_co 245 111 = (.aload_n 0, 1, 0, 0, []) := rfl
theorem zr_245_112 : z_co 245 112 = (.aload_n 0, 1, 0, 0, []) := rfl
theorem zr_245_113 : z_co 245 113 = (.invokevirtual 132, 3, 154, 0, [1383, 1385, 47]) := rfl
theorem zr_245_116 : z_co 245 116 = (.invokevirtual 469, 3, 244, 0, [1775, 1777, 102]) := rfl
theorem zr_245_119 : z_co 245 119 = (.invokevirtual 419, 3, 223, 0, [1691, 1693, 93]) := rfl
theorem zr_245_122 : z_co 245 122 = (.ifCond .eq 7, 3, 0, 0, []) := rfl
theorem zr_245_125 : z_co 245 125 = (.iconst 1, 1, 0, 0, []) := rfl
theorem zr_245_126 : z_co 245 126 = (.goto 4, 3, 0, 0, []) := rfl
theorem zr_245_129 : z_co 245 129 = (.iconst 0, 1, 0, 0, []) := rfl
theorem zr_245_130 : z_co 245 130 = (.iadd, 1, 0, 0, []) := rfl
theorem zr_245_131 : z_co 245 131 = (.istore 5, 2, 0, 0, []) := rfl
theorem zr_245_133 : z_co 245 133 = (.iinc 6 1, 3, 0, 0, []) := rfl
theorem zr_245_136 : z_co 245 136 = (.goto (-65), 3, 0, 0, []) := rfl
theorem zr_245_139 : z_co 245 139 = (.aload_n 0, 1, 0, 0, []) := rfl
theorem zr_245_140 : z_co 245 140 = (.getfield 112, 3, 12, 54, [1244]) := rfl
theorem zr_245_143 : z_co 245 143 = (.iconst 3, 1, 0, 0, []) := rfl
theorem zr_245_144 : z_co 245 144 = (.iload 4, 2, 0, 0, []) := rfl
theorem zr_245_146 : z_co 245 146 = (.imul, 1, 0, 0, []) := rfl
theorem zr_245_147 : z_co 245 147 = (.iload 5, 2, 0, 0, []) := rfl
theorem zr_245_149 : z_co 245 149 = (.iastore, 1, 0, 0, []) := rfl
theorem zr_245_150 : z_co 245 150 = (.aload_n 0, 1, 0, 0, []) := rfl
theorem zr_245_151 : z_co 245 151 = (.getfield 112, 3, 12, 54, [1244]) := rfl
theorem zr_245_154 : z_co 245 154 = (.iconst 3, 1, 0, 0, []) := rfl
theorem zr_245_155 : z_co 245 155 = (.iload 4, 2, 0, 0, []) := rfl
theorem zr_245_157 : z_co 245 157 = (.imul, 1, 0, 0, []) := rfl
theorem zr_245_158 : z_co 245 158 = (.iconst 1, 1, 0, 0, []) := rfl
theorem zr_245_159 : z_co 245 159 = (.iadd, 1, 0, 0, []) := rfl
theorem zr_245_160 : z_co 245 160 = (.aload_n 0, 1, 0, 0, []) := rfl
theorem zr_245_161 : z_co 245 161 = (.invokevirtual 425, 3, 224, 0, [1702, 1704, 95]) := rfl
theorem zr_245_164 : z_co 245 164 = (.iastore, 1, 0, 0, []) := rfl
theorem zr_245_165 : z_co 245 165 = (.aload_n 0, 1, 0, 0, []) := rfl
theorem zr_245_166 : z_co 245 166 = (.getfield 112, 3, 12, 54, [1244]) := rfl
theorem zr_245_169 : z_co 245 169 = (.iconst 3, 1, 0, 0, []) := rfl
theorem zr_245_170 : z_co 245 170 = (.iload 4, 2, 0, 0, []) := rfl
theorem zr_245_172 : z_co 245 172 = (.imul, 1, 0, 0, []) := rfl
theorem zr_245_173 : z_co 245 173 = (.iconst 2, 1, 0, 0, []) := rfl
theorem zr_245_174 : z_co 245 174 = (.iadd, 1, 0, 0, []) := rfl
theorem zr_245_175 : z_co 245 175 = (.aload_n 0, 1, 0, 0, []) := rfl
theorem zr_245_176 : z_co 245 176 = (.getfield 404, 3, 12, 44, [1234]) := rfl
theorem zr_245_179 : z_co 245 179 = (.iastore, 1, 0, 0, []) := rfl
theorem zr_245_180 : z_co 245 180 = (.iload_n 3, 1, 0, 0, []) := rfl
theorem zr_245_181 : z_co 245 181 = (.iload 5, 2, 0, 0, []) := rfl
theorem zr_245_183 : z_co 245 183 = (.iadd, 1, 0, 0, []) := rfl
theorem zr_245_184 : z_co 245 184 = (.istore_n 3, 1, 0, 0, []) := rfl
theorem zr_245_185 : z_co 245 185 = (.iinc 4 1, 3, 0, 0, []) := rfl
theorem zr_245_188 : z_co 245 188 = (.goto (-133), 3, 0, 0, []) := rfl
theorem zr_245_191 : z_co 245 191 = (.aload_n 0, 1, 0, 0, []) := rfl
theorem zr_245_192 : z_co 245 192 = (.iload_n 3, 1, 0, 0, []) := rfl
theorem zr_245_193 : z_co 245 193 = (.invokevirtual 129, 3, 149, 0, [1366, 1368, 46]) := rfl
theorem zr_245_196 : z_co 245 196 = (.ireturn, 1, 0, 0, []) := rfl
theorem zr_246_0 : z_co 246 0 = (.aload_n 0, 1, 0, 0, []) := rfl
theorem zr_246_1 : z_co 246 1 = (.iconst 0, 1, 0, 0, []) := rfl
theorem zr_246_2 : z_co 246 2 = (.putfield 115, 3, 12, 0, [1190]) := rfl
theorem zr_246_5 : z_co 246 5 = (.iload_n 1, 1, 0, 0, []) := rfl
theorem zr_246_6 : z_co 246 6 = (.i2l, 1, 0, 0, []) := rfl
theorem zr_246_7 : z_co 246 7 = (.lconst 0, 1, 0, 0, []) := rfl
theorem zr_246_8 : z_co 246 8 = (.aload_n 0, 1, 0, 0, []) := rfl
theorem zr_246_9 : z_co 246 9 = (.getfield 466, 3, 12, 55, [1245]) := rfl
theorem zr_246_12 : z_co 246 12 = (.i2l, 1, 0, 0, []) := rfl
theorem zr_246_13 : z_co 246 13 = (.lconst 1, 1, 0, 0, []) := rfl
theorem zr_246_14 : z_co 246 14 = (.lsub, 1, 0, 0, []) := rfl
theorem zr_246_15 : z_co 246 15 = (.invokestatic 125, 3, 145, 0, [1363, 1364]) := rfl
theorem zr_246_18 : z_co 246 18 = (.ifCond .eq 28, 3, 0, 0, []) := rfl
theorem zr_246_21 : z_co 246 21 = (.iload_n 2, 1, 0, 0, []) := rfl
theorem zr_246_22 : z_co 246 22 = (.i2l, 1, 0, 0, []) := rfl
theorem zr_246_23 : z_co 246 23 = (.lconst 0, 1, 0, 0, []) := rfl
theorem zr_246_24 : z_co 246 24 = (.ldc2_w 402, 3, 2, 0, [1662]) := rfl
theorem zr_246_27 : z_co 246 27 = (.invokestatic 125, 3, 145, 0, [1363, 1364]) := rfl
theorem zr_246_30 : z_co 246 30 = (.ifCond .eq 16, 3, 0, 0, []) := rfl
theorem zr_246_33 : z_co 246 33 = (.aload_n 0, 1, 0, 0, []) := rfl
theorem zr_246_34 : z_co 246 34 = (.getfield 112, 3, 12, 54, [1244]) := rfl
theorem zr_246_37 : z_co 246 37 = (.iconst 3, 1, 0, 0, []) := rfl
theorem zr_246_38 : z_co 246 38 = (.iload_n 1, 1, 0, 0, []) := rfl
theorem zr_246_39 : z_co 246 39 = (.imul, 1, 0, 0, []) := rfl
theorem zr_246_40 : z_co 246 40 = (.iload_n 2, 1, 0, 0, []) := rfl
theorem zr_246_41 : z_co 246 41 = (.iadd, 1, 0, 0, []) := rfl
theorem zr_246_42 : z_co 246 42 = (.iaload, 1, 0, 0, []) := rfl
theorem zr_246_43 : z_co 246 43 = (.goto 4, 3, 0, 0, []) := rfl
theorem zr_246_46 : z_co 246 46 = (.iconst (-1), 1, 0, 0, []) := rfl
theorem zr_246_47 : z_co 246 47 = (.ireturn, 1, 0, 0, []) := rfl
theorem zr_247_0 : z_co 247 0 = (.aload_n 0, 1, 0, 0, []) := rfl
theorem zr_247_1 : z_co 247 1 = (.iconst 0, 1, 0, 0, []) := rfl
theorem zr_247_2 : z_co 247 2 = (.putfield 115, 3, 12, 0, [1190]) := rfl
theorem zr_247_5 : z_co 247 5 = (.iconst 0, 1, 0, 0, []) := rfl
theorem zr_247_6 : z_co 247 6 = (.istore_n 2, 1, 0, 0, []) := rfl
theorem zr_247_7 : z_co 247 7 = (.iconst 0, 1, 0, 0, []) := rfl
theorem zr_247_8 : z_co 247 8 = (.istore_n 3, 1, 0, 0, []) := rfl
theorem zr_247_9 : z_co 247 9 = (.iload_n 3, 1, 0, 0, []) := rfl
theorem zr_247_10 : z_co 247 10 = (.aload_n 0, 1, 0, 0, []) := rfl
theorem zr_247_11 : z_co 247 11 = (.invokevirtual 132, 3, 154, 0, [1383, 1385, 47]) := rfl
theorem zr_247_14 : z_co 247 14 = (.if_icmp .ge 18, 3, 0, 0, []) := rfl
theorem zr_247_17 : z_co 247 17 = (.iload_n 2, 1, 0, 0, []) := rfl
theorem zr_247_18 : z_co 247 18 = (.aload_n 0, 1, 0, 0, []) := rfl
theorem zr_247_19 : z_co 247 19 = (.iload_n 3, 1, 0, 0, []) := rfl
theorem zr_247_20 : z_co 247 20 = (.iconst 3, 1, 0, 0, []) := rfl
theorem zr_247_21 : z_co 247 21 = (.invokevirtual 161, 3, 157, 0, [1420, 1422, 54]) := rfl
theorem zr_247_24 : z_co 247 24 = (.iadd, 1, 0, 0, []) := rfl
theorem zr_247_25 : z_co 247 25 = (.istore_n 2, 1, 0, 0, []) := rfl
theorem zr_247_26 : z_co 247 26 = (.iinc 3 1, 3, 0, 0, []) := rfl
theorem zr_247_29 : z_co 247 29 = (.goto (-20), 3, 0, 0, []) := rfl
theorem zr_247_32 : z_co 247 32 = (.iload_n 1, 1, 0, 0, []) := rfl
theorem zr_247_33 : z_co 247 33 = (.tableswitch 174 0 14 #[75, 80, 87, 94, 101, 103, 110, 115, 122, 129, 136, 143, 151, 158, 166], 75, 0, 0, []) := rfl
theorem zr_247_108 : z_co 247 108 = (.aload_n 0, 1, 0, 0, []) := rfl
theorem zr_247_109 : z_co 247 109 = (.invokevirtual 132, 3, 154, 0, [1383, 1385, 47]) := rfl
theorem zr_247_112 : z_co 247 112 = (.ireturn, 1, 0, 0, []) := rfl
theorem zr_247_113 : z_co 247 113 = (.aload_n 0, 1, 0, 0, []) := rfl
theorem zr_247_114 : z_co 247 114 = (.getfield 13, 3, 12, 3, [1193]) := rfl
theorem zr_247_117 : z_co 247 117 = (.iconst 1, 1, 0, 0, []) := rfl
theorem zr_247_118 : z_co 247 118 = (.iaload, 1, 0, 0, []) := rfl
theorem zr_247_119 : z_co 247 119 = (.ireturn, 1, 0, 0, []) := rfl
theorem zr_247_120 : z_co 247 120 = (.aload_n 0, 1, 0, 0, []) := rfl
theorem zr_247_121 : z_co 247 121 = (.getfield 13, 3, 12, 3, [1193]) := rfl
theorem zr_247_124 : z_co 247 124 = (.iconst 2, 1, 0, 0, []) := rfl
theorem zr_247_125 : z_co 247 125 = (.iaload, 1, 0, 0, []) := rfl
theorem zr_247_126 : z_co 247 126 = (.ireturn, 1, 0, 0, []) := rfl
theorem zr_247_127 : z_co 247 127 = (.aload_n 0, 1, 0, 0, []) := rfl
theorem zr_247_128 : z_co 247 128 = (.getfield 13, 3, 12, 3, [1193]) := rfl
theorem zr_247_131 : z_co 247 131 = (.iconst 4, 1, 0, 0, []) := rfl
theorem zr_247_132 : z_co 247 132 = (.iaload, 1, 0, 0, []) := rfl
theorem zr_247_133 : z_co 247 133 = (.ireturn, 1, 0, 0, []) := rfl
theorem zr_247_134 : z_co 247 134 = (.iload_n 2, 1, 0, 0, []) := rfl
theorem zr_247_135 : z_co 247 135 = (.ireturn, 1, 0, 0, []) := rfl
theorem zr_247_136 : z_co 247 136 = (.aload_n 0, 1, 0, 0, []) := rfl
theorem zr_247_137 : z_co 247 137 = (.getfield 13, 3, 12, 3, [1193]) := rfl
theorem zr_247_140 : z_co 247 140 = (.iconst 5, 1, 0, 0, []) := rfl
theorem zr_247_141 : z_co 247 141 = (.iaload, 1, 0, 0, []) := rfl
theorem zr_247_142 : z_co 247 142 = (.ireturn, 1, 0, 0, []) := rfl
theorem zr_247_143 : z_co 247 143 = (.aload_n 0, 1, 0, 0, []) := rfl
theorem zr_247_144 : z_co 247 144 = (.getfield 174, 3, 12, 8, [1198]) := rfl
theorem zr_247_147 : z_co 247 147 = (.ireturn, 1, 0, 0, []) := rfl
theorem zr_247_148 : z_co 247 148 = (.aload_n 0, 1, 0, 0, []) := rfl
theorem zr_247_149 : z_co 247 149 = (.getfield 7, 3, 12, 2, [1192]) := rfl
theorem zr_247_152 : z_co 247 152 = (.iconst 1, 1, 0, 0, []) := rfl
theorem zr_247_153 : z_co 247 153 = (.iaload, 1, 0, 0, []) := rfl
theorem zr_247_154 : z_co 247 154 = (.ireturn, 1, 0, 0, []) := rfl
theorem zr_247_155 : z_co 247 155 = (.aload_n 0, 1, 0, 0, []) := rfl
theorem zr_247_156 : z_co 247 156 = (.getfield 7, 3, 12, 2, [1192]) := rfl
theorem zr_247_159 : z_co 247 159 = (.iconst 2, 1, 0, 0, []) := rfl
theorem zr_247_160 : z_co 247 160 = (.iaload, 1, 0, 0, []) := rfl
theorem zr_247_161 : z_co 247 161 = (.ireturn, 1, 0, 0, []) := rfl
theorem zr_247_162 : z_co 247 162 = (.aload_n 0, 1, 0, 0, []) := rfl
theorem zr_247_163 : z_co 247 163 = (.getfield 7, 3, 12, 2, [1192]) := rfl
theorem zr_247_166 : z_co 247 166 = (.iconst 3, 1, 0, 0, []) := rfl
theorem zr_247_167 : z_co 247 167 = (.iaload, 1, 0, 0, []) := rfl
theorem zr_247_168 : z_co 247 168 = (.ireturn, 1, 0, 0, []) := rfl
theorem zr_247_169 : z_co 247 169 = (.aload_n 0, 1, 0, 0, []) := rfl
theorem zr_247_170 : z_co 247 170 = (.getfield 7, 3, 12, 2, [1192]) := rfl
theorem zr_247_173 : z_co 247 173 = (.iconst 5, 1, 0, 0, []) := rfl
theorem zr_247_174 : z_co 247 174 = (.iaload, 1, 0, 0, []) := rfl
theorem zr_247_175 : z_co 247 175 = (.ireturn, 1, 0, 0, []) := rfl
theorem zr_247_176 : z_co 247 176 = (.aload_n 0, 1, 0, 0, []) := rfl
theorem zr_247_177 : z_co 247 177 = (.getfield 7, 3, 12, 2, [1192]) := rfl
theorem zr_247_180 : z_co 247 180 = (.bipush 6, 2, 0, 0, []) := rfl
theorem zr_247_182 : z_co 247 182 = (.iaload, 1, 0, 0, []) := rfl
theorem zr_247_183 : z_co 247 183 = (.ireturn, 1, 0, 0, []) := rfl
theorem zr_247_184 : z_co 247 184 = (.aload_n 0, 1, 0, 0, []) := rfl
theorem zr_247_185 : z_co 247 185 = (.getfield 13, 3, 12, 3, [1193]) := rfl
theorem zr_247_188 : z_co 247 188 = (.iconst 3, 1, 0, 0, []) := rfl
theorem zr_247_189 : z_co 247 189 = (.iaload, 1, 0, 0, []) := rfl
theorem zr_247_190 : z_co 247 190 = (.ireturn, 1, 0, 0, []) := rfl
theorem zr_247_191 : z_co 247 191 = (.aload_n 0, 1, 0, 0, []) := rfl
theorem zr_247_192 : z_co 247 192 = (.getfield 13, 3, 12, 3, [1193]) := rfl
theorem zr_247_195 : z_co 247 195 = (.bipush 6, 2, 0, 0, []) := rfl
theorem zr_247_197 : z_co 247 197 = (.iaload, 1, 0, 0, []) := rfl
theorem zr_247_198 : z_co 247 198 = (.ireturn, 1, 0, 0, []) := rfl
theorem zr_247_199 : z_co 247 199 = (.aload_n 0, 1, 0, 0, []) := rfl
theorem zr_247_200 : z_co 247 200 = (.getfield 13, 3, 12, 3, [1193]) := rfl
theorem zr_247_203 : z_co 247 203 = (.bipush 7, 2, 0, 0, []) := rfl
theorem zr_247_205 : z_co 247 205 = (.iaload, 1, 0, 0, []) := rfl
theorem zr_247_206 : z_co 247 206 = (.ireturn, 1, 0, 0, []) := rfl
theorem zr_247_207 : z_co 247 207 = (.iconst (-1), 1, 0, 0, []) := rfl
theorem zr_247_208 : z_co 247 208 = (.ireturn, 1, 0, 0, []) := rfl
theorem zr_248_0 : z_co 248 0 = (.aload_n 0, 1, 0, 0, []) := rfl
theorem zr_248_1 : z_co 248 1 = (.iconst 0, 1, 0, 0, []) := rfl
theorem zr_248_2 : z_co 248 2 = (.putfield 115, 3, 12, 0, [1190]) := rfl
theorem zr_248_5 : z_co 248 5 = (.aload_n 0, 1, 0, 0, []) := rfl
theorem zr_248_6 : z_co 248 6 = (.getfield 118, 3, 12, 1, [1191]) := rfl
theorem zr_248_9 : z_co 248 9 = (.ireturn, 1, 0, 0, []) := rfl
theorem zr_249_0 : z_co 249 0 = (.aload_n 0, 1, 0, 0, []) := rfl
theorem zr_249_1 : z_co 249 1 = (.getfield 9, 3, 13, 0, [1794]) := rfl
theorem zr_249_4 : z_co 249 4 = (.arraylength, 1, 0, 0, []) := rfl
theorem zr_249_5 : z_co 249 5 = (.aload_n 0, 1, 0, 0, []) := rfl
theorem zr_249_6 : z_co 249 6 = (.invokevirtual 335, 3, 251, 0, [625, 626, 627]) := rfl
theorem zr_249_9 : z_co 249 9 = (.ishr, 1, 0, 0, []) := rfl
theorem zr_249_10 : z_co 249 10 = (.ireturn, 1, 0, 0, []) := rfl
theorem zr_250_0 : z_co 250 0 = (.aload_n 0, 1, 0, 0, []) := rfl
theorem zr_250_1 : z_co 250 1 = (.invokevirtual 492, 3, 252, 0, [635, 636, 637]) := rfl
theorem zr_250_4 : z_co 250 4 = (.ifCond .eq 12, 3, 0, 0, []) := rfl
theorem zr_250_7 : z_co 250 7 = (.aload_n 0, 1, 0, 0, []) := rfl
theorem zr_250_8 : z_co 250 8 = (.getfield 9, 3, 13, 0, [1794]) := rfl
theorem zr_250_11 : z_co 250 11 = (.iload_n 1, 1, 0, 0, []) := rfl
theorem zr_250_12 : z_co 250 12 = (.invokestatic 495, 3, 254, 0, [639, 640]) := rfl
theorem zr_250_15 : z_co 250 15 = (.ireturn, 1, 0, 0, []) := rfl
theorem zr_250_16 : z_co 250 16 = (.aload_n 0, 1, 0, 0, []) := rfl
theorem zr_250_17 : z_co 250 17 = (.getfield 9, 3, 13, 0, [1794]) := rfl
theorem zr_250_20 : z_co 250 20 = (.iload_n 1, 1, 0, 0, []) := rfl
theorem zr_250_24 : z_co 250 24 = (.ireturn, 1, 0, 0, []) := rfl
theorem zr_251_0 : z_co 251 0 = (.getstatic 38, 3, 0, 0, [629]) := rfl
theorem zr_251_3 : z_co 251 3 = (.ifCond .eq 10, 3, 0, 0, []) := rfl
theorem zr_251_6 : z_co 251 6 = (.aload_n 0, 1, 0, 0, []) := rfl
theorem zr_251_7 : z_co 251 7 = (.getfield 15, 3, 13, 1, [1795]) := rfl
theorem zr_251_10 : z_co 251 10 = (.goto 4, 3, 0, 0, []) := rfl
theorem zr_251_13 : z_co 251 13 = (.iconst 1, 1, 0, 0, []) := rfl
theorem zr_251_14 : z_co 251 14 = (.ireturn, 1, 0, 0, []) := rfl
theorem zr_252_0 : z_co 252 0 = (.getstatic 38, 3, 0, 0, [629]) := rfl
theorem zr_252_3 : z_co 252 3 = (.ifCond .eq 14, 3, 0, 0, []) := rfl
theorem zr_252_6 : z_co 252 6 = (.aload_n 0, 1, 0, 0, []) := rfl
theorem zr_252_7 : z_co 252 7 = (.getfield 15, 3, 13, 1, [1795]) := rfl
theorem zr_252_10 : z_co 252 10 = (.ifCond .ne 7, 3, 0, 0, []) := rfl
theorem zr_252_13 : z_co 252 13 = (.iconst 1, 1, 0, 0, []) := rfl
theorem zr_252_14 : z_co 252 14 = (.goto 4, 3, 0, 0, []) := rfl
theorem zr_252_17 : z_co 252 17 = (.iconst 0, 1, 0, 0, []) := rfl
theorem zr_252_18 : z_co 252 18 = (.ireturn, 1, 0, 0, []) := rfl
theorem zr_253_0 : z_co 253 0 = (.iload_n 0, 1, 0, 0, []) := rfl
theorem zr_253_1 : z_co 253 1 = (.iload_n 1, 1, 0, 0, []) := rfl
theorem zr_253_2 : z_co 253 2 = (.getstatic 1053, 3, 7, 0, [645]) := rfl
theorem zr_253_5 : z_co 253 5 = (.invokestatic 1059, 3, 255, 0, [647, 648]) := rfl
theorem zr_253_8 : z_co 253 8 = (.pop, 1, 0, 0, []) := rfl
theorem zr_253_9 : z_co 253 9 = (.return_, 1, 0, 0, []) := rfl
theorem zr_254_0 : z_co 254 0 = (.iload_n 1, 1, 0, 0, []) := rfl
theorem zr_254_1 : z_co 254 1 = (.aload_n 0, 1, 0, 0, []) := rfl
theorem zr_254_2 : z_co 254 2 = (.arraylength, 1, 0, 0, []) := rfl
theorem zr_254_3 : z_co 254 3 = (.invokestatic 9, 3, 253, 0, [642, 643]) := rfl
theorem zr_254_6 : z_co 254 6 = (.aload_n 0, 1, 0, 0, []) := rfl
theorem zr_254_7 : z_co 254 7 = (.iload_n 1, 1, 0, 0, []) := rfl
theorem zr_254_8 : z_co 254 8 = (.baload, 1, 0, 0, []) := rfl
theorem zr_254_9 : z_co 254 9 = (.sipush 255, 3, 0, 0, []) := rfl
theorem zr_254_12 : z_co 254 12 = (.iand, 1, 0, 0, []) := rfl
theorem zr_254_13 : z_co 254 13 = (.i2c, 1, 0, 0, []) := rfl
theorem zr_254_14 : z_co 254 14 = (.ireturn, 1, 0, 0, []) := rfl
theorem zr_255_0 : z_co 255 0 = (.iload_n 0, 1, 0, 0, []) := rfl
theorem zr_255_1 : z_co 255 1 = (.ifCond .lt 8, 3, 0, 0, []) := rfl
theorem zr_255_4 : z_co 255 4 = (.iload_n 0, 1, 0, 0, []) := rfl
theorem zr_255_5 : z_co 255 5 = (.iload_n 1, 1, 0, 0, []) := rfl
theorem zr_255_6 : z_co 255 6 = (.if_icmp .lt 10, 3, 0, 0, []) := rfl
theorem zr_255_9 : z_co 255 9 = (.aload_n 2, 1, 0, 0, []) := rfl
theorem zr_255_10 : z_co 255 10 = (.iload_n 0, 1, 0, 0, []) := rfl
theorem zr_255_11 : z_co 255 11 = (.iload_n 1, 1, 0, 0, []) := rfl
theorem zr_255_16 : z_co 255 16 = (.iload_n 0, 1, 0, 0, []) := rfl
theorem zr_255_17 : z_co 255 17 = (.ireturn, 1, 0, 0, []) := rfl
theorem zr_256_0 : z_co 256 0 = (.iload_n 0, 1, 0, 0, []) := rfl
theorem zr_256_1 : z_co 256 1 = (.iload_n 0, 1, 0, 0, []) := rfl
theorem zr_256_2 : z_co 256 2 = (.iconst 1, 1, 0, 0, []) := rfl
theorem zr_256_3 : z_co 256 3 = (.iushr, 1, 0, 0, []) := rfl
theorem zr_256_4 : z_co 256 4 = (.ldc_w 265, 3, 1431655765, 0, [917]) := rfl
theorem zr_256_7 : z_co 256 7 = (.iand, 1, 0, 0, []) := rfl
theorem zr_256_8 : z_co 256 8 = (.isub, 1, 0, 0, []) := rfl
theorem zr_256_9 : z_co 256 9 = (.istore_n 0, 1, 0, 0, []) := rfl
theorem zr_256_10 : z_co 256 10 = (.iload_n 0, 1, 0, 0, []) := rfl
theorem zr_256_11 : z_co 256 11 = (.ldc_w 266, 3, 858993459, 0, [918]) := rfl
theorem zr_256_14 : z_co 256 14 = (.iand, 1, 0, 0, []) := rfl
theorem zr_256_15 : z_co 256 15 = (.iload_n 0, 1, 0, 0, []) := rfl
theorem zr_256_16 : z_co 256 16 = (.iconst 2, 1, 0, 0, []) := rfl
theorem zr_256_17 : z_co 256 17 = (.iushr, 1, 0, 0, []) := rfl
theorem zr_256_18 : z_co 256 18 = (.ldc_w 266, 3, 858993459, 0, [918]) := rfl
theorem zr_256_21 : z_co 256 21 = (.iand, 1, 0, 0, []) := rfl
theorem zr_256_22 : z_co 256 22 = (.iadd, 1, 0, 0, []) := rfl
theorem zr_256_23 : z_co 256 23 = (.istore_n 0, 1, 0, 0, []) := rfl
theorem zr_256_24 : z_co 256 24 = (.iload_n 0, 1, 0, 0, []) := rfl
theorem zr_256_25 : z_co 256 25 = (.iload_n 0, 1, 0, 0, []) := rfl
theorem zr_256_26 : z_co 256 26 = (.iconst 4, 1, 0, 0, []) := rfl
theorem zr_256_27 : z_co 256 27 = (.iushr, 1, 0, 0, []) := rfl
theorem zr_256_28 : z_co 256 28 = (.iadd, 1, 0, 0, []) := rfl
theorem zr_256_29 : z_co 256 29 = (.ldc_w 267, 3, 252645135, 0, [919]) := rfl
theorem zr_256_32 : z_co 256 32 = (.iand, 1, 0, 0, []) := rfl
theorem zr_256_33 : z_co 256 33 = (.istore_n 0, 1, 0, 0, []) := rfl
theorem zr_256_34 : z_co 256 34 = (.iload_n 0, 1, 0, 0, []) := rfl
theorem zr_256_35 : z_co 256 35 = (.iload_n 0, 1, 0, 0, []) := rfl
theorem zr_256_36 : z_co 256 36 = (.bipush 8, 2, 0, 0, []) := rfl
theorem zr_256_38 : z_co 256 38 = (.iushr, 1, 0, 0, []) := rfl
theorem zr_256_39 : z_co 256 39 = (.iadd, 1, 0, 0, []) := rfl
theorem zr_256_40 : z_co 256 40 = (.istore_n 0, 1, 0, 0, []) := rfl
theorem zr_256_41 : z_co 256 41 = (.iload_n 0, 1, 0, 0, []) := rfl
theorem zr_256_42 : z_co 256 42 = (.iload_n 0, 1, 0, 0, []) := rfl
theorem zr_256_43 : z_co 256 43 = (.bipush 16, 2, 0, 0, []) := rfl
theorem zr_256_45 : z_co 256 45 = (.iushr, 1, 0, 0, []) := rfl
theorem zr_256_46 : z_co 256 46 = (.iadd, 1, 0, 0, []) := rfl
theorem zr_256_47 : z_co 256 47 = (.istore_n 0, 1, 0, 0, []) := rfl
theorem zr_256_48 : z_co 256 48 = (.iload_n 0, 1, 0, 0, []) := rfl
theorem zr_256_49 : z_co 256 49 = (.bipush 63, 2, 0, 0, []) := rfl
theorem zr_256_51 : z_co 256 51 = (.iand, 1, 0, 0, []) := rfl
theorem zr_256_52 : z_co 256 52 = (.ireturn, 1, 0, 0, []) := rfl
theorem zr_257_0 : z_co 257 0 = (.iconst 0, 1, 0, 0, []) := rfl
theorem zr_257_1 : z_co 257 1 = (.istore_n 2, 1, 0, 0, []) := rfl
theorem zr_257_2 : z_co 257 2 = (.aload_n 0, 1, 0, 0, []) := rfl
theorem zr_257_3 : z_co 257 3 = (.arraylength, 1, 0, 0, []) := rfl
theorem zr_257_4 : z_co 257 4 = (.istore_n 3, 1, 0, 0, []) := rfl
theorem zr_257_5 : z_co 257 5 = (.iload_n 2, 1, 0, 0, []) := rfl
theorem zr_257_6 : z_co 257 6 = (.iload_n 3, 1, 0, 0, []) := rfl
theorem zr_257_7 : z_co 257 7 = (.if_icmp .ge 13, 3, 0, 0, []) := rfl
theorem zr_257_10 : z_co 257 10 = (.aload_n 0, 1, 0, 0, []) := rfl
theorem zr_257_11 : z_co 257 11 = (.iload_n 2, 1, 0, 0, []) := rfl
theorem zr_257_12 : z_co 257 12 = (.iload_n 1, 1, 0, 0, []) := rfl
theorem zr_257_13 : z_co 257 13 = (.iastore, 1, 0, 0, []) := rfl
theorem zr_257_14 : z_co 257 14 = (.iinc 2 1, 3, 0, 0, []) := rfl
theorem zr_257_17 : z_co 257 17 = (.goto (-12), 3, 0, 0, []) := rfl
theorem zr_257_20 : z_co 257 20 = (.return_, 1, 0, 0, []) := rfl
theorem zr_258_0 : z_co 258 0 = (.iload_n 1, 1, 0, 0, []) := rfl
theorem zr_258_1 : z_co 258 1 = (.aload_n 0, 1, 0, 0, []) := rfl
theorem zr_258_2 : z_co 258 2 = (.arraylength, 1, 0, 0, []) := rfl
theorem zr_258_3 : z_co 258 3 = (.if_icmp .ne 11, 3, 0, 0, []) := rfl
theorem zr_258_6 : z_co 258 6 = (.aload_n 0, 1, 0, 0, []) := rfl
theorem zr_258_7 : z_co 258 7 = (.invokevirtual 316, 3, 1002, 0, [744, 745, 746, 747, 748, 749]) := rfl
theorem zr_258_10 : z_co 258 10 = (.checkcast 317, 3, 0, 0, [750]) := rfl
theorem zr_258_13 : z_co 258 13 = (.areturn, 1, 0, 0, []) := rfl
theorem zr_258_14 : z_co 258 14 = (.iload_n 1, 1, 0, 0, []) := rfl
theorem zr_258_15 : z_co 258 15 = (.newarray .int, 2, 0, 0, []) := rfl
theorem zr_258_17 : z_co 258 17 = (.astore_n 2, 1, 0, 0, []) := rfl
theorem zr_258_18 : z_co 258 18 = (.aload_n 0, 1, 0, 0, []) := rfl
theorem zr_258_19 : z_co 258 19 = (.iconst 0, 1, 0, 0, []) := rfl
theorem zr_258_20 : z_co 258 20 = (.aload_n 2, 1, 0, 0, []) := rfl
theorem zr_258_21 : z_co 258 21 = (.iconst 0, 1, 0, 0, []) := rfl
theorem zr_258_22 : z_co 258 22 = (.aload_n 0, 1, 0, 0, []) := rfl
theorem zr_258_23 : z_co 258 23 = (.arraylength, 1, 0, 0, []) := rfl
theorem zr_258_24 : z_co 258 24 = (.iload_n 1, 1, 0, 0, []) := rfl
theorem zr_258_25 : z_co 258 25 = (.invokestatic 304, 3, 261, 0, [751, 599]) := rfl
theorem zr_258_28 : z_co 258 28 = (.invokestatic 150, 3, 1001, 0, [752, 754, 753, 123]) := rfl
theorem zr_258_31 : z_co 258 31 = (.aload_n 2, 1, 0, 0, []) := rfl
theorem zr_258_32 : z_co 258 32 = (.areturn, 1, 0, 0, []) := rfl
theorem zr_259_0 : z_co 259 0 = (.iload_n 0, 1, 0, 0, []) := rfl
theorem zr_259_1 : z_co 259 1 = (.ifCond .ge 8, 3, 0, 0, []) := rfl
theorem zr_259_4 : z_co 259 4 = (.iload_n 0, 1, 0, 0, []) := rfl
theorem zr_259_5 : z_co 259 5 = (.ineg, 1, 0, 0, []) := rfl
theorem zr_259_6 : z_co 259 6 = (.goto 4, 3, 0, 0, []) := rfl
theorem zr_259_9 : z_co 259 9 = (.iload_n 0, 1, 0, 0, []) := rfl
theorem zr_259_10 : z_co 259 10 = (.ireturn, 1, 0, 0, []) := rfl
theorem zr_260_0 : z_co 260 0 = (.iload_n 0, 1, 0, 0, []) := rfl
theorem zr_260_1 : z_co 260 1 = (.iload_n 1, 1, 0, 0, []) := rfl
theorem zr_260_2 : z_co 260 2 = (.if_icmp .lt 7, 3, 0, 0, []) := rfl
theorem zr_260_5 : z_co 260 5 = (.iload_n 0, 1, 0, 0, []) := rfl
theorem zr_260_6 : z_co 260 6 = (.goto 4, 3, 0, 0, []) := rfl
theorem zr_260_9 : z_co 260 9 = (.iload_n 1, 1, 0, 0, []) := rfl
theorem zr_260_10 : z_co 260 10 = (.ireturn, 1, 0, 0, []) := rfl
theorem zr_261_0 : z_co 261 0 = (.iload_n 0, 1, 0, 0, []) := rfl
theorem zr_261_1 : z_co 261 1 = (.iload_n 1, 1, 0, 0, []) := rfl
theorem zr_261_2 : z_co 261 2 = (.if_icmp .gt 7, 3, 0, 0, []) := rfl
theorem zr_261_5 : z_co 261 5 = (.iload_n 0, 1, 0, 0, []) := rfl
theorem zr_261_6 : z_co 261 6 = (.goto 4, 3, 0, 0, []) := rfl
theorem zr_261_9 : z_co 261 9 = (.iload_n 1, 1, 0, 0, []) := rfl
theorem zr_261_10 : z_co 261 10 = (.ireturn, 1, 0, 0, []) := rfl
