/-! the rows: printed by a program -/
theorem zr_231_0 : z_co 231 0 = (.aload_n 0, 1, 0, 0, []) := rfl
theorem zr_231_1 : z_co 231 1 = (.getfield 97, 3, 12, 45, [1235]) := rfl
theorem zr_231_4 : z_co 231 4 = (.iload_n 1, 1, 0, 0, []) := rfl
theorem zr_231_5 : z_co 231 5 = (.iaload, 1, 0, 0, []) := rfl
theorem zr_231_6 : z_co 231 6 = (.istore_n 3, 1, 0, 0, []) := rfl
theorem zr_231_7 : z_co 231 7 = (.aload_n 0, 1, 0, 0, []) := rfl
theorem zr_231_8 : z_co 231 8 = (.getfield 97, 3, 12, 45, [1235]) := rfl
theorem zr_231_11 : z_co 231 11 = (.iload_n 1, 1, 0, 0, []) := rfl
theorem zr_231_12 : z_co 231 12 = (.aload_n 0, 1, 0, 0, []) := rfl
theorem zr_231_13 : z_co 231 13 = (.getfield 97, 3, 12, 45, [1235]) := rfl
theorem zr_231_16 : z_co 231 16 = (.iload_n 2, 1, 0, 0, []) := rfl
theorem zr_231_17 : z_co 231 17 = (.iaload, 1, 0, 0, []) := rfl
theorem zr_231_18 : z_co 231 18 = (.iastore, 1, 0, 0, []) := rfl
theorem zr_231_19 : z_co 231 19 = (.aload_n 0, 1, 0, 0, []) := rfl
theorem zr_231_20 : z_co 231 20 = (.getfield 97, 3, 12, 45, [1235]) := rfl
theorem zr_231_23 : z_co 231 23 = (.iload_n 2, 1, 0, 0, []) := rfl
theorem zr_231_24 : z_co 231 24 = (.iload_n 3, 1, 0, 0, []) := rfl
theorem zr_231_25 : z_co 231 25 = (.iastore, 1, 0, 0, []) := rfl
theorem zr_231_26 : z_co 231 26 = (.return_, 1, 0, 0, []) := rfl
theorem zr_232_0 : z_co 232 0 = (.iload_n 1, 1, 0, 0, []) := rfl
theorem zr_232_1 : z_co 232 1 = (.aload_n 0, 1, 0, 0, []) := rfl
theorem zr_232_2 : z_co 232 2 = (.getfield 428, 3, 12, 47, [1237]) := rfl
theorem zr_232_5 : z_co 232 5 = (.if_icmp .gt 19, 3, 0, 0, []) := rfl
theorem zr_232_8 : z_co 232 8 = (.iload_n 1, 1, 0, 0, []) := rfl
theorem zr_232_9 : z_co 232 9 = (.aload_n 0, 1, 0, 0, []) := rfl
theorem zr_232_10 : z_co 232 10 = (.getfield 428, 3, 12, 47, [1237]) := rfl
theorem zr_232_13 : z_co 232 13 = (.if_icmp .ne 15, 3, 0, 0, []) := rfl
theorem zr_232_16 : z_co 232 16 = (.iload_n 2, 1, 0, 0, []) := rfl
theorem zr_232_17 : z_co 232 17 = (.aload_n 0, 1, 0, 0, []) := rfl
theorem zr_232_18 : z_co 232 18 = (.getfield 431, 3, 12, 48, [1238]) := rfl
theorem zr_232_21 : z_co 232 21 = (.if_icmp .ge 7, 3, 0, 0, []) := rfl
theorem zr_232_24 : z_co 232 24 = (.iconst 1, 1, 0, 0, []) := rfl
theorem zr_232_25 : z_co 232 25 = (.goto 4, 3, 0, 0, []) := rfl
theorem zr_232_28 : z_co 232 28 = (.iconst 0, 1, 0, 0, []) := rfl
theorem zr_232_29 : z_co 232 29 = (.istore 4, 2, 0, 0, []) := rfl
theorem zr_232_31 : z_co 232 31 = (.iload 4, 2, 0, 0, []) := rfl
theorem zr_232_33 : z_co 232 33 = (.ifCond .eq 47, 3, 0, 0, []) := rfl
theorem zr_232_36 : z_co 232 36 = (.aload_n 0, 1, 0, 0, []) := rfl
theorem zr_232_37 : z_co 232 37 = (.iload_n 1, 1, 0, 0, []) := rfl
theorem zr_232_38 : z_co 232 38 = (.putfield 428, 3, 12, 47, [1237]) := rfl
theorem zr_232_41 : z_co 232 41 = (.aload_n 0, 1, 0, 0, []) := rfl
theorem zr_232_42 : z_co 232 42 = (.iload_n 2, 1, 0, 0, []) := rfl
theorem zr_232_43 : z_co 232 43 = (.putfield 431, 3, 12, 48, [1238]) := rfl
theorem zr_232_46 : z_co 232 46 = (.aload_n 0, 1, 0, 0, []) := rfl
theorem zr_232_47 : z_co 232 47 = (.iconst 0, 1, 0, 0, []) := rfl
theorem zr_232_48 : z_co 232 48 = (.putfield 434, 3, 12, 49, [1239]) := rfl
theorem zr_232_51 : z_co 232 51 = (.iconst 0, 1, 0, 0, []) := rfl
theorem zr_232_52 : z_co 232 52 = (.istore 5, 2, 0, 0, []) := rfl
theorem zr_232_54 : z_co 232 54 = (.iload 5, 2, 0, 0, []) := rfl
theorem zr_232_56 : z_co 232 56 = (.iload_n 3, 1, 0, 0, []) := rfl
theorem zr_232_57 : z_co 232 57 = (.if_icmp .ge 23, 3, 0, 0, []) := rfl
theorem zr_232_60 : z_co 232 60 = (.aload_n 0, 1, 0, 0, []) := rfl
theorem zr_232_61 : z_co 232 61 = (.getfield 100, 3, 12, 46, [1236]) := rfl
theorem zr_232_64 : z_co 232 64 = (.iload 5, 2, 0, 0, []) := rfl
theorem zr_232_66 : z_co 232 66 = (.aload_n 0, 1, 0, 0, []) := rfl
theorem zr_232_67 : z_co 232 67 = (.getfield 97, 3, 12, 45, [1235]) := rfl
theorem zr_232_70 : z_co 232 70 = (.iload 5, 2, 0, 0, []) := rfl
theorem zr_232_72 : z_co 232 72 = (.iaload, 1, 0, 0, []) := rfl
theorem zr_232_73 : z_co 232 73 = (.iastore, 1, 0, 0, []) := rfl
theorem zr_232_74 : z_co 232 74 = (.iinc 5 1, 3, 0, 0, []) := rfl
theorem zr_232_77 : z_co 232 77 = (.goto (-23), 3, 0, 0, []) := rfl
theorem zr_232_80 : z_co 232 80 = (.aload_n 0, 1, 0, 0, []) := rfl
theorem zr_232_81 : z_co 232 81 = (.dup, 1, 0, 0, []) := rfl
theorem zr_232_82 : z_co 232 82 = (.getfield 434, 3, 12, 49, [1239]) := rfl
theorem zr_232_85 : z_co 232 85 = (.iload_n 1, 1, 0, 0, []) := rfl
theorem zr_232_86 : z_co 232 86 = (.aload_n 0, 1, 0, 0, []) := rfl
theorem zr_232_87 : z_co 232 87 = (.getfield 428, 3, 12, 47, [1237]) := rfl
theorem zr_232_90 : z_co 232 90 = (.if_icmp .ne 15, 3, 0, 0, []) := rfl
theorem zr_232_93 : z_co 232 93 = (.iload_n 2, 1, 0, 0, []) := rfl
theorem zr_232_94 : z_co 232 94 = (.aload_n 0, 1, 0, 0, []) := rfl
theorem zr_232_95 : z_co 232 95 = (.getfield 431, 3, 12, 48, [1238]) := rfl
theorem zr_232_98 : z_co 232 98 = (.if_icmp .ne 7, 3, 0, 0, []) := rfl
theorem zr_232_101 : z_co 232 101 = (.iconst 1, 1, 0, 0, []) := rfl
theorem zr_232_102 : z_co 232 102 = (.goto 4, 3, 0, 0, []) := rfl
theorem zr_232_105 : z_co 232 105 = (.iconst 0, 1, 0, 0, []) := rfl
theorem zr_232_106 : z_co 232 106 = (.iadd, 1, 0, 0, []) := rfl
theorem zr_232_107 : z_co 232 107 = (.putfield 434, 3, 12, 49, [1239]) := rfl
theorem zr_232_110 : z_co 232 110 = (.return_, 1, 0, 0, []) := rfl
theorem zr_233_0 : z_co 233 0 = (.aload_n 0, 1, 0, 0, []) := rfl
theorem zr_233_1 : z_co 233 1 = (.iconst 0, 1, 0, 0, []) := rfl
theorem zr_233_2 : z_co 233 2 = (.putfield 115, 3, 12, 0, [1190]) := rfl
theorem zr_233_5 : z_co 233 5 = (.aload_n 0, 1, 0, 0, []) := rfl
theorem zr_233_6 : z_co 233 6 = (.getfield 13, 3, 12, 3, [1193]) := rfl
theorem zr_233_9 : z_co 233 9 = (.iconst 4, 1, 0, 0, []) := rfl
theorem zr_233_10 : z_co 233 10 = (.iaload, 1, 0, 0, []) := rfl
theorem zr_233_11 : z_co 233 11 = (.istore_n 2, 1, 0, 0, []) := rfl
theorem zr_233_12 : z_co 233 12 = (.iload_n 1, 1, 0, 0, []) := rfl
theorem zr_233_13 : z_co 233 13 = (.i2l, 1, 0, 0, []) := rfl
theorem zr_233_14 : z_co 233 14 = (.lconst 0, 1, 0, 0, []) := rfl
theorem zr_233_15 : z_co 233 15 = (.ldc2_w 402, 3, 2, 0, [1662]) := rfl
theorem zr_233_18 : z_co 233 18 = (.iload_n 2, 1, 0, 0, []) := rfl
theorem zr_233_19 : z_co 233 19 = (.i2l, 1, 0, 0, []) := rfl
theorem zr_233_20 : z_co 233 20 = (.ladd, 1, 0, 0, []) := rfl
theorem zr_233_21 : z_co 233 21 = (.invokestatic 125, 3, 145, 0, [1363, 1364]) := rfl
theorem zr_233_24 : z_co 233 24 = (.ifCond .ne 5, 3, 0, 0, []) := rfl
theorem zr_233_27 : z_co 233 27 = (.iconst (-1), 1, 0, 0, []) := rfl
theorem zr_233_28 : z_co 233 28 = (.ireturn, 1, 0, 0, []) := rfl
theorem zr_233_29 : z_co 233 29 = (.aload_n 0, 1, 0, 0, []) := rfl
theorem zr_233_30 : z_co 233 30 = (.invokevirtual 158, 3, 201, 0, [1412, 1414, 52]) := rfl
theorem zr_233_33 : z_co 233 33 = (.aload_n 0, 1, 0, 0, []) := rfl
theorem zr_233_34 : z_co 233 34 = (.iload_n 2, 1, 0, 0, []) := rfl
theorem zr_233_35 : z_co 233 35 = (.invokevirtual 440, 3, 229, 0, [1714, 1716, 96]) := rfl
theorem zr_233_38 : z_co 233 38 = (.iconst 1, 1, 0, 0, []) := rfl
theorem zr_233_39 : z_co 233 39 = (.istore_n 3, 1, 0, 0, []) := rfl
theorem zr_233_40 : z_co 233 40 = (.iload_n 3, 1, 0, 0, []) := rfl
theorem zr_233_41 : z_co 233 41 = (.ifCond .eq 88, 3, 0, 0, []) := rfl
theorem zr_233_44 : z_co 233 44 = (.aload_n 0, 1, 0, 0, []) := rfl
theorem zr_233_45 : z_co 233 45 = (.invokevirtual 413, 3, 221, 0, [1683, 1685, 91]) := rfl
theorem zr_233_48 : z_co 233 48 = (.iconst 0, 1, 0, 0, []) := rfl
theorem zr_233_49 : z_co 233 49 = (.istore 4, 2, 0, 0, []) := rfl
theorem zr_233_51 : z_co 233 51 = (.iconst 0, 1, 0, 0, []) := rfl
theorem zr_233_52 : z_co 233 52 = (.istore 5, 2, 0, 0, []) := rfl
theorem zr_233_54 : z_co 233 54 = (.iload 5, 2, 0, 0, []) := rfl
theorem zr_233_56 : z_co 233 56 = (.iload_n 2, 1, 0, 0, []) := rfl
theorem zr_233_57 : z_co 233 57 = (.if_icmp .ge 49, 3, 0, 0, []) := rfl
theorem zr_233_60 : z_co 233 60 = (.iload 4, 2, 0, 0, []) := rfl
theorem zr_233_62 : z_co 233 62 = (.aload_n 0, 1, 0, 0, []) := rfl
theorem zr_233_63 : z_co 233 63 = (.aload_n 0, 1, 0, 0, []) := rfl
theorem zr_233_64 : z_co 233 64 = (.aload_n 0, 1, 0, 0, []) := rfl
theorem zr_233_65 : z_co 233 65 = (.getfield 97, 3, 12, 45, [1235]) := rfl
theorem zr_233_68 : z_co 233 68 = (.iload 5, 2, 0, 0, []) := rfl
theorem zr_233_70 : z_co 233 70 = (.iaload, 1, 0, 0, []) := rfl
theorem zr_233_71 : z_co 233 71 = (.invokevirtual 416, 3, 225, 0, [1687, 1689, 92]) := rfl
theorem zr_233_74 : z_co 233 74 = (.aload_n 0, 1, 0, 0, []) := rfl
theorem zr_233_75 : z_co 233 75 = (.getfield 82, 3, 12, 35, [1225]) := rfl
theorem zr_233_78 : z_co 233 78 = (.aload_n 0, 1, 0, 0, []) := rfl
theorem zr_233_79 : z_co 233 79 = (.getfield 97, 3, 12, 45, [1235]) := rfl
theorem zr_233_82 : z_co 233 82 = (.iload 5, 2, 0, 0, []) := rfl
theorem zr_233_84 : z_co 233 84 = (.iaload, 1, 0, 0, []) := rfl
theorem zr_233_85 : z_co 233 85 = (.iaload, 1, 0, 0, []) := rfl
theorem zr_233_86 : z_co 233 86 = (.invokevirtual 419, 3, 223, 0, [1691, 1693, 93]) := rfl
theorem zr_233_89 : z_co 233 89 = (.ifCond .eq 7, 3, 0, 0, []) := rfl
theorem zr_233_92 : z_co 233 92 = (.iconst 1, 1, 0, 0, []) := rfl
theorem zr_233_93 : z_co 233 93 = (.goto 4, 3, 0, 0, []) := rfl
theorem zr_233_96 : z_co 233 96 = (.iconst 0, 1, 0, 0, []) := rfl
theorem zr_233_97 : z_co 233 97 = (.iadd, 1, 0, 0, []) := rfl
theorem zr_233_98 : z_co 233 98 = (.istore 4, 2, 0, 0, []) := rfl
theorem zr_233_100 : z_co 233 100 = (.iinc 5 1, 3, 0, 0, []) := rfl
theorem zr_233_103 : z_co 233 103 = (.goto (-49), 3, 0, 0, []) := rfl
theorem zr_233_106 : z_co 233 106 = (.aload_n 0, 1, 0, 0, []) := rfl
theorem zr_233_107 : z_co 233 107 = (.iload 4, 2, 0, 0, []) := rfl
theorem zr_233_109 : z_co 233 109 = (.aload_n 0, 1, 0, 0, []) := rfl
theorem zr_233_110 : z_co 233 110 = (.invokevirtual 425, 3, 224, 0, [1702, 1704, 95]) := rfl
theorem zr_233_113 : z_co 233 113 = (.invokestatic 387, 3, 147, 0, [1651, 1652]) := rfl
theorem zr_233_116 : z_co 233 116 = (.iload_n 2, 1, 0, 0, []) := rfl
theorem zr_233_117 : z_co 233 117 = (.invokevirtual 443, 3, 232, 0, [1718, 1720, 97]) := rfl
theorem zr_233_120 : z_co 233 120 = (.aload_n 0, 1, 0, 0, []) := rfl
theorem zr_233_121 : z_co 233 121 = (.iload_n 2, 1, 0, 0, []) := rfl
theorem zr_233_122 : z_co 233 122 = (.invokevirtual 446, 3, 230, 0, [1722, 1724, 98]) := rfl
theorem zr_233_125 : z_co 233 125 = (.istore_n 3, 1, 0, 0, []) := rfl
theorem zr_233_126 : z_co 233 126 = (.goto (-86), 3, 0, 0, []) := rfl
theorem zr_233_129 : z_co 233 129 = (.iload_n 1, 1, 0, 0, []) := rfl
theorem zr_233_130 : z_co 233 130 = (.ifCond .ne 10, 3, 0, 0, []) := rfl
theorem zr_233_133 : z_co 233 133 = (.aload_n 0, 1, 0, 0, []) := rfl
theorem zr_233_134 : z_co 233 134 = (.getfield 428, 3, 12, 47, [1237]) := rfl
theorem zr_233_137 : z_co 233 137 = (.goto 35, 3, 0, 0, []) := rfl
theorem zr_233_140 : z_co 233 140 = (.iload_n 1, 1, 0, 0, []) := rfl
theorem zr_233_141 : z_co 233 141 = (.iconst 1, 1, 0, 0, []) := rfl
theorem zr_233_142 : z_co 233 142 = (.if_icmp .ne 10, 3, 0, 0, []) := rfl
theorem zr_233_145 : z_co 233 145 = (.aload_n 0, 1, 0, 0, []) := rfl
theorem zr_233_146 : z_co 233 146 = (.getfield 431, 3, 12, 48, [1238]) := rfl
theorem zr_233_149 : z_co 233 149 = (.goto 23, 3, 0, 0, []) := rfl
theorem zr_233_152 : z_co 233 152 = (.iload_n 1, 1, 0, 0, []) := rfl
theorem zr_233_153 : z_co 233 153 = (.iconst 2, 1, 0, 0, []) := rfl
theorem zr_233_154 : z_co 233 154 = (.if_icmp .ne 10, 3, 0, 0, []) := rfl
theorem zr_233_157 : z_co 233 157 = (.aload_n 0, 1, 0, 0, []) := rfl
theorem zr_233_158 : z_co 233 158 = (.getfield 434, 3, 12, 49, [1239]) := rfl
theorem zr_233_161 : z_co 233 161 = (.goto 11, 3, 0, 0, []) := rfl
theorem zr_233_164 : z_co 233 164 = (.aload_n 0, 1, 0, 0, []) := rfl
theorem zr_233_165 : z_co 233 165 = (.getfield 100, 3, 12, 46, [1236]) := rfl
theorem zr_233_168 : z_co 233 168 = (.iload_n 1, 1, 0, 0, []) := rfl
theorem zr_233_169 : z_co 233 169 = (.iconst 3, 1, 0, 0, []) := rfl
theorem zr_233_170 : z_co 233 170 = (.isub, 1, 0, 0, []) := rfl
theorem zr_233_171 : z_co 233 171 = (.iaload, 1, 0, 0, []) := rfl
theorem zr_233_172 : z_co 233 172 = (.ireturn, 1, 0, 0, []) := rfl
theorem zr_234_0 : z_co 234 0 = (.aload_n 0, 1, 0, 0, []) := rfl
theorem zr_234_1 : z_co 234 1 = (.invokevirtual 132, 3, 154, 0, [1383, 1385, 47]) := rfl
theorem zr_234_4 : z_co 234 4 = (.istore_n 1, 1, 0, 0, []) := rfl
theorem zr_234_5 : z_co 234 5 = (.aload_n 0, 1, 0, 0, []) := rfl
theorem zr_234_6 : z_co 234 6 = (.iload_n 1, 1, 0, 0, []) := rfl
theorem zr_234_7 : z_co 234 7 = (.invokevirtual 440, 3, 229, 0, [1714, 1716, 96]) := rfl
theorem zr_234_10 : z_co 234 10 = (.iconst 1, 1, 0, 0, []) := rfl
theorem zr_234_11 : z_co 234 11 = (.istore_n 2, 1, 0, 0, []) := rfl
theorem zr_234_12 : z_co 234 12 = (.iload_n 2, 1, 0, 0, []) := rfl
theorem zr_234_13 : z_co 234 13 = (.ifCond .eq 62, 3, 0, 0, []) := rfl
theorem zr_234_16 : z_co 234 16 = (.iconst 0, 1, 0, 0, []) := rfl
theorem zr_234_17 : z_co 234 17 = (.istore_n 3, 1, 0, 0, []) := rfl
theorem zr_234_18 : z_co 234 18 = (.iload_n 3, 1, 0, 0, []) := rfl
theorem zr_234_19 : z_co 234 19 = (.iload_n 1, 1, 0, 0, []) := rfl
theorem zr_234_20 : z_co 234 20 = (.if_icmp .ge 21, 3, 0, 0, []) := rfl
theorem zr_234_23 : z_co 234 23 = (.aload_n 0, 1, 0, 0, []) := rfl
theorem zr_234_24 : z_co 234 24 = (.getfield 73, 3, 12, 32, [1222]) := rfl
theorem zr_234_27 : z_co 234 27 = (.iload_n 3, 1, 0, 0, []) := rfl
theorem zr_234_28 : z_co 234 28 = (.aload_n 0, 1, 0, 0, []) := rfl
theorem zr_234_29 : z_co 234 29 = (.getfield 97, 3, 12, 45, [1235]) := rfl
theorem zr_234_32 : z_co 234 32 = (.iload_n 3, 1, 0, 0, []) := rfl
theorem zr_234_33 : z_co 234 33 = (.iaload, 1, 0, 0, []) := rfl
theorem zr_234_34 : z_co 234 34 = (.iastore, 1, 0, 0, []) := rfl
theorem zr_234_35 : z_co 234 35 = (.iinc 3 1, 3, 0, 0, []) := rfl
theorem zr_234_38 : z_co 234 38 = (.goto (-20), 3, 0, 0, []) := rfl
theorem zr_234_41 : z_co 234 41 = (.aload_n 0, 1, 0, 0, []) := rfl
theorem zr_234_42 : z_co 234 42 = (.invokevirtual 344, 3, 202, 0, [1416, 1418, 53]) := rfl
theorem zr_234_45 : z_co 234 45 = (.aload_n 0, 1, 0, 0, []) := rfl
theorem zr_234_46 : z_co 234 46 = (.invokevirtual 422, 3, 226, 0, [1679, 1681, 90]) := rfl
theorem zr_234_49 : z_co 234 49 = (.invokestatic 387, 3, 147, 0, [1651, 1652]) := rfl
theorem zr_234_52 : z_co 234 52 = (.istore_n 3, 1, 0, 0, []) := rfl
theorem zr_234_53 : z_co 234 53 = (.aload_n 0, 1, 0, 0, []) := rfl
theorem zr_234_54 : z_co 234 54 = (.iload_n 3, 1, 0, 0, []) := rfl
theorem zr_234_55 : z_co 234 55 = (.aload_n 0, 1, 0, 0, []) := rfl
theorem zr_234_56 : z_co 234 56 = (.invokevirtual 425, 3, 224, 0, [1702, 1704, 95]) := rfl
theorem zr_234_59 : z_co 234 59 = (.invokestatic 387, 3, 147, 0, [1651, 1652]) := rfl
theorem zr_234_62 : z_co 234 62 = (.iload_n 1, 1, 0, 0, []) := rfl
theorem zr_234_63 : z_co 234 63 = (.invokevirtual 443, 3, 232, 0, [1718, 1720, 97]) := rfl
theorem zr_234_66 : z_co 234 66 = (.aload_n 0, 1, 0, 0, []) := rfl
theorem zr_234_67 : z_co 234 67 = (.iload_n 1, 1, 0, 0, []) := rfl
theorem zr_234_68 : z_co 234 68 = (.invokevirtual 446, 3, 230, 0, [1722, 1724, 98]) := rfl
theorem zr_234_71 : z_co 234 71 = (.istore_n 2, 1, 0, 0, []) := rfl
theorem zr_234_72 : z_co 234 72 = (.goto (-60), 3, 0, 0, []) := rfl
theorem zr_234_75 : z_co 234 75 = (.return_, 1, 0, 0, []) := rfl
theorem zr_235_0 : z_co 235 0 = (.aload_n 0, 1, 0, 0, []) := rfl
theorem zr_235_1 : z_co 235 1 = (.iconst 0, 1, 0, 0, []) := rfl
theorem zr_235_2 : z_co 235 2 = (.putfield 115, 3, 12, 0, [1190]) := rfl
theorem zr_235_5 : z_co 235 5 = (.aload_n 0, 1, 0, 0, []) := rfl
theorem zr_235_6 : z_co 235 6 = (.invokevirtual 132, 3, 154, 0, [1383, 1385, 47]) := rfl
theorem zr_235_9 : z_co 235 9 = (.bipush 6, 2, 0, 0, []) := rfl
theorem zr_235_11 : z_co 235 11 = (.if_icmp .gt 21, 3, 0, 0, []) := rfl
theorem zr_235_14 : z_co 235 14 = (.iload_n 1, 1, 0, 0, []) := rfl
theorem zr_235_15 : z_co 235 15 = (.i2l, 1, 0, 0, []) := rfl
theorem zr_235_16 : z_co 235 16 = (.lconst 0, 1, 0, 0, []) := rfl
theorem zr_235_17 : z_co 235 17 = (.ldc2_w 402, 3, 2, 0, [1662]) := rfl
theorem zr_235_20 : z_co 235 20 = (.aload_n 0, 1, 0, 0, []) := rfl
theorem zr_235_21 : z_co 235 21 = (.invokevirtual 132, 3, 154, 0, [1383, 1385, 47]) := rfl
theorem zr_235_24 : z_co 235 24 = (.i2l, 1, 0, 0, []) := rfl
theorem zr_235_25 : z_co 235 25 = (.ladd, 1, 0, 0, []) := rfl
theorem zr_235_26 : z_co 235 26 = (.invokestatic 125, 3, 145, 0, [1363, 1364]) := rfl
theorem zr_235_29 : z_co 235 29 = (.ifCond .ne 5, 3, 0, 0, []) := rfl
theorem zr_235_32 : z_co 235 32 = (.iconst (-1), 1, 0, 0, []) := rfl
theorem zr_235_33 : z_co 235 33 = (.ireturn, 1, 0, 0, []) := rfl
theorem zr_235_34 : z_co 235 34 = (.aload_n 0, 1, 0, 0, []) := rfl
theorem zr_235_35 : z_co 235 35 = (.invokevirtual 449, 3, 234, 0, [1734, 1736, 100]) := rfl
theorem zr_235_38 : z_co 235 38 = (.iload_n 1, 1, 0, 0, []) := rfl
theorem zr_235_39 : z_co 235 39 = (.ifCond .ne 10, 3, 0, 0, []) := rfl
theorem zr_235_42 : z_co 235 42 = (.aload_n 0, 1, 0, 0, []) := rfl
theorem zr_235_43 : z_co 235 43 = (.getfield 428, 3, 12, 47, [1237]) := rfl
theorem zr_235_46 : z_co 235 46 = (.goto 35, 3, 0, 0, []) := rfl
theorem zr_235_49 : z_co 235 49 = (.iload_n 1, 1, 0, 0, []) := rfl
theorem zr_235_50 : z_co 235 50 = (.iconst 1, 1, 0, 0, []) := rfl
theorem zr_235_51 : z_co 235 51 = (.if_icmp .ne 10, 3, 0, 0, []) := rfl
theorem zr_235_54 : z_co 235 54 = (.aload_n 0, 1, 0, 0, []) := rfl
theorem zr_235_55 : z_co 235 55 = (.getfield 431, 3, 12, 48, [1238]) := rfl
theorem zr_235_58 : z_co 235 58 = (.goto 23, 3, 0, 0, []) := rfl
theorem zr_235_61 : z_co 235 61 = (.iload_n 1, 1, 0, 0, []) := rfl
theorem zr_235_62 : z_co 235 62 = (.iconst 2, 1, 0, 0, []) := rfl
theorem zr_235_63 : z_co 235 63 = (.if_icmp .ne 10, 3, 0, 0, []) := rfl
theorem zr_235_66 : z_co 235 66 = (.aload_n 0, 1, 0, 0, []) := rfl
theorem zr_235_67 : z_co 235 67 = (.getfield 434, 3, 12, 49, [1239]) := rfl
theorem zr_235_70 : z_co 235 70 = (.goto 11, 3, 0, 0, []) := rfl
theorem zr_235_73 : z_co 235 73 = (.aload_n 0, 1, 0, 0, []) := rfl
theorem zr_235_74 : z_co 235 74 = (.getfield 100, 3, 12, 46, [1236]) := rfl
theorem zr_235_77 : z_co 235 77 = (.iload_n 1, 1, 0, 0, []) := rfl
theorem zr_235_78 : z_co 235 78 = (.iconst 3, 1, 0, 0, []) := rfl
theorem zr_235_79 : z_co 235 79 = (.isub, 1, 0, 0, []) := rfl
theorem zr_235_80 : z_co 235 80 = (.iaload, 1, 0, 0, []) := rfl
theorem zr_235_81 : z_co 235 81 = (.ireturn, 1, 0, 0, []) := rfl
theorem zr_236_0 : z_co 236 0 = (.aload_n 0, 1, 0, 0, []) := rfl
theorem zr_236_1 : z_co 236 1 = (.iconst 0, 1, 0, 0, []) := rfl
theorem zr_236_2 : z_co 236 2 = (.putfield 115, 3, 12, 0, [1190]) := rfl
theorem zr_236_5 : z_co 236 5 = (.aload_n 0, 1, 0, 0, []) := rfl
theorem zr_236_6 : z_co 236 6 = (.invokevirtual 132, 3, 154, 0, [1383, 1385, 47]) := rfl
theorem zr_236_9 : z_co 236 9 = (.bipush 6, 2, 0, 0, []) := rfl
theorem zr_236_11 : z_co 236 11 = (.if_icmp .le 10, 3, 0, 0, []) := rfl
theorem zr_236_14 : z_co 236 14 = (.aload_n 0, 1, 0, 0, []) := rfl
theorem zr_236_15 : z_co 236 15 = (.bipush (-3), 2, 0, 0, []) := rfl
theorem zr_236_17 : z_co 236 17 = (.invokevirtual 129, 3, 149, 0, [1366, 1368, 46]) := rfl
theorem zr_236_20 : z_co 236 20 = (.ireturn, 1, 0, 0, []) := rfl
theorem zr_236_21 : z_co 236 21 = (.aload_n 0, 1, 0, 0, []) := rfl
theorem zr_236_22 : z_co 236 22 = (.invokevirtual 449, 3, 234, 0, [1734, 1736, 100]) := rfl
theorem zr_236_25 : z_co 236 25 = (.iconst 0, 1, 0, 0, []) := rfl
theorem zr_236_26 : z_co 236 26 = (.istore_n 1, 1, 0, 0, []) := rfl
theorem zr_236_27 : z_co 236 27 = (.iconst 0, 1, 0, 0, []) := rfl
theorem zr_236_28 : z_co 236 28 = (.istore_n 2, 1, 0, 0, []) := rfl
theorem zr_236_29 : z_co 236 29 = (.iload_n 2, 1, 0, 0, []) := rfl
theorem zr_236_30 : z_co 236 30 = (.bipush 48, 2, 0, 0, []) := rfl
theorem zr_236_32 : z_co 236 32 = (.if_icmp .ge 24, 3, 0, 0, []) := rfl
theorem zr_236_35 : z_co 236 35 = (.aload_n 0, 1, 0, 0, []) := rfl
theorem zr_236_36 : z_co 236 36 = (.getfield 103, 3, 12, 50, [1240]) := rfl
theorem zr_236_39 : z_co 236 39 = (.iload_n 2, 1, 0, 0, []) := rfl
theorem zr_236_40 : z_co 236 40 = (.aload_n 0, 1, 0, 0, []) := rfl
theorem zr_236_41 : z_co 236 41 = (.getfield 13, 3, 12, 3, [1193]) := rfl
theorem zr_236_44 : z_co 236 44 = (.bipush 8, 2, 0, 0, []) := rfl
theorem zr_236_46 : z_co 236 46 = (.iload_n 2, 1, 0, 0, []) := rfl
theorem zr_236_47 : z_co 236 47 = (.iadd, 1, 0, 0, []) := rfl
theorem zr_236_48 : z_co 236 48 = (.iaload, 1, 0, 0, []) := rfl
theorem zr_236_49 : z_co 236 49 = (.iastore, 1, 0, 0, []) := rfl
theorem zr_236_50 : z_co 236 50 = (.iinc 2 1, 3, 0, 0, []) := rfl
theorem zr_236_53 : z_co 236 53 = (.goto (-24), 3, 0, 0, []) := rfl
theorem zr_236_56 : z_co 236 56 = (.iconst 0, 1, 0, 0, []) := rfl
theorem zr_236_57 : z_co 236 57 = (.istore_n 2, 1, 0, 0, []) := rfl
theorem zr_236_58 : z_co 236 58 = (.iload_n 2, 1, 0, 0, []) := rfl
theorem zr_236_59 : z_co 236 59 = (.aload_n 0, 1, 0, 0, []) := rfl
theorem zr_236_60 : z_co 236 60 = (.invokevirtual 132, 3, 154, 0, [1383, 1385, 47]) := rfl
theorem zr_236_63 : z_co 236 63 = (.if_icmp .ge 68, 3, 0, 0, []) := rfl
theorem zr_236_66 : z_co 236 66 = (.iload_n 1, 1, 0, 0, []) := rfl
theorem zr_236_67 : z_co 236 67 = (.aload_n 0, 1, 0, 0, []) := rfl
theorem zr_236_68 : z_co 236 68 = (.getfield 100, 3, 12, 46, [1236]) := rfl
theorem zr_236_71 : z_co 236 71 = (.iload_n 2, 1, 0, 0, []) := rfl
theorem zr_236_72 : z_co 236 72 = (.iaload, 1, 0, 0, []) := rfl
theorem zr_236_73 : z_co 236 73 = (.iload_n 2, 1, 0, 0, []) := rfl
theorem zr_236_74 : z_co 236 74 = (.if_icmp .ne 7, 3, 0, 0, []) := rfl
theorem zr_236_77 : z_co 236 77 = (.iconst 0, 1, 0, 0, []) := rfl
theorem zr_236_78 : z_co 236 78 = (.goto 4, 3, 0, 0, []) := rfl
theorem zr_236_81 : z_co 236 81 = (.iconst 1, 1, 0, 0, []) := rfl
theorem zr_236_82 : z_co 236 82 = (.iadd, 1, 0, 0, []) := rfl
theorem zr_236_83 : z_co 236 83 = (.istore_n 1, 1, 0, 0, []) := rfl
theorem zr_236_84 : z_co 236 84 = (.iconst 0, 1, 0, 0, []) := rfl
theorem zr_236_85 : z_co 236 85 = (.istore_n 3, 1, 0, 0, []) := rfl
theorem zr_236_86 : z_co 236 86 = (.iload_n 3, 1, 0, 0, []) := rfl
theorem zr_236_87 : z_co 236 87 = (.iconst 4, 1, 0, 0, []) := rfl
theorem zr_236_88 : z_co 236 88 = (.if_icmp .ge 37, 3, 0, 0, []) := rfl
theorem zr_236_91 : z_co 236 91 = (.aload_n 0, 1, 0, 0, []) := rfl
theorem zr_236_92 : z_co 236 92 = (.getfield 13, 3, 12, 3, [1193]) := rfl
theorem zr_236_95 : z_co 236 95 = (.bipush 8, 2, 0, 0, []) := rfl
theorem zr_236_97 : z_co 236 97 = (.iconst 4, 1, 0, 0, []) := rfl
theorem zr_236_98 : z_co 236 98 = (.iload_n 2, 1, 0, 0, []) := rfl
theorem zr_236_99 : z_co 236 99 = (.imul, 1, 0, 0, []) := rfl
theorem zr_236_100 : z_co 236 100 = (.iadd, 1, 0, 0, []) := rfl
theorem zr_236_101 : z_co 236 101 = (.iload_n 3, 1, 0, 0, []) := rfl
theorem zr_236_102 : z_co 236 102 = (.iadd, 1, 0, 0, []) := rfl
theorem zr_236_103 : z_co 236 103 = (.aload_n 0, 1, 0, 0, []) := rfl
theorem zr_236_104 : z_co 236 104 = (.getfield 103, 3, 12, 50, [1240]) := rfl
theorem zr_236_107 : z_co 236 107 = (.iconst 4, 1, 0, 0, []) := rfl
theorem zr_236_108 : z_co 236 108 = (.aload_n 0, 1, 0, 0, []) := rfl
theorem zr_236_109 : z_co 236 109 = (.getfield 100, 3, 12, 46, [1236]) := rfl
theorem zr_236_112 : z_co 236 112 = (.iload_n 2, 1, 0, 0, []) := rfl
theorem zr_236_113 : z_co 236 113 = (.iaload, 1, 0, 0, []) := rfl
theorem zr_236_114 : z_co 236 114 = (.imul, 1, 0, 0, []) := rfl
theorem zr_236_115 : z_co 236 115 = (.iload_n 3, 1, 0, 0, []) := rfl
theorem zr_236_116 : z_co 236 116 = (.iadd, 1, 0, 0, []) := rfl
theorem zr_236_117 : z_co 236 117 = (.iaload, 1, 0, 0, []) := rfl
theorem zr_236_118 : z_co 236 118 = (.iastore, 1, 0, 0, []) := rfl
theorem zr_236_119 : z_co 236 119 = (.iinc 3 1, 3, 0, 0, []) := rfl
theorem zr_236_122 : z_co 236 122 = (.goto (-36), 3, 0, 0, []) := rfl
theorem zr_236_125 : z_co 236 125 = (.iinc 2 1, 3, 0, 0, []) := rfl
theorem zr_236_128 : z_co 236 128 = (.goto (-70), 3, 0, 0, []) := rfl
theorem zr_236_131 : z_co 236 131 = (.iconst 0, 1, 0, 0, []) := rfl
theorem zr_236_132 : z_co 236 132 = (.istore_n 2, 1, 0, 0, []) := rfl
theorem zr_236_133 : z_co 236 133 = (.iload_n 2, 1, 0, 0, []) := rfl
theorem zr_236_134 : z_co 236 134 = (.aload_n 0, 1, 0, 0, []) := rfl
theorem zr_236_135 : z_co 236 135 = (.getfield 13, 3, 12, 3, [1193]) := rfl
theorem zr_236_138 : z_co 236 138 = (.iconst 4, 1, 0, 0, []) := rfl
theorem zr_236_139 : z_co 236 139 = (.iaload, 1, 0, 0, []) := rfl
theorem zr_236_140 : z_co 236 140 = (.if_icmp .ge 83, 3, 0, 0, []) := rfl
theorem zr_236_143 : z_co 236 143 = (.aload_n 0, 1, 0, 0, []) := rfl
theorem zr_236_144 : z_co 236 144 = (.getfield 13, 3, 12, 3, [1193]) := rfl
theorem zr_236_147 : z_co 236 147 = (.bipush 68, 2, 0, 0, []) := rfl
theorem zr_236_149 : z_co 236 149 = (.iconst 2, 1, 0, 0, []) := rfl
theorem zr_236_150 : z_co 236 150 = (.iload_n 2, 1, 0, 0, []) := rfl
theorem zr_236_151 : z_co 236 151 = (.imul, 1, 0, 0, []) := rfl
theorem zr_236_152 : z_co 236 152 = (.iadd, 1, 0, 0, []) := rfl
theorem zr_236_153 : z_co 236 153 = (.iconst 1, 1, 0, 0, []) := rfl
theorem zr_236_154 : z_co 236 154 = (.iadd, 1, 0, 0, []) := rfl
theorem zr_236_155 : z_co 236 155 = (.iaload, 1, 0, 0, []) := rfl
theorem zr_236_156 : z_co 236 156 = (.istore_n 3, 1, 0, 0, []) := rfl
theorem zr_236_157 : z_co 236 157 = (.iconst 0, 1, 0, 0, []) := rfl
theorem zr_236_158 : z_co 236 158 = (.istore 4, 2, 0, 0, []) := rfl
theorem zr_236_160 : z_co 236 160 = (.iload 4, 2, 0, 0, []) := rfl
theorem zr_236_162 : z_co 236 162 = (.aload_n 0, 1, 0, 0, []) := rfl
theorem zr_236_163 : z_co 236 163 = (.invokevirtual 132, 3, 154, 0, [1383, 1385, 47]) := rfl
theorem zr_236_166 : z_co 236 166 = (.if_icmp .ge 51, 3, 0, 0, []) := rfl
theorem zr_236_169 : z_co 236 169 = (.aload_n 0, 1, 0, 0, []) := rfl
theorem zr_236_170 : z_co 236 170 = (.getfield 13, 3, 12, 3, [1193]) := rfl
theorem zr_236_173 : z_co 236 173 = (.bipush 68, 2, 0, 0, []) := rfl
theorem zr_236_175 : z_co 236 175 = (.iconst 2, 1, 0, 0, []) := rfl
theorem zr_236_176 : z_co 236 176 = (.iload_n 2, 1, 0, 0, []) := rfl
theorem zr_236_177 : z_co 236 177 = (.imul, 1, 0, 0, []) := rfl
theorem zr_236_178 : z_co 236 178 = (.iadd, 1, 0, 0, []) := rfl
theorem zr_236_179 : z_co 236 179 = (.iconst 1, 1, 0, 0, []) := rfl
theorem zr_236_180 : z_co 236 180 = (.iadd, 1, 0, 0, []) := rfl
theorem zr_236_181 : z_co 236 181 = (.aload_n 0, 1, 0, 0, []) := rfl
theorem zr_236_182 : z_co 236 182 = (.getfield 100, 3, 12, 46, [1236]) := rfl
theorem zr_236_185 : z_co 236 185 = (.iload 4, 2, 0, 0, []) := rfl
theorem zr_236_187 : z_co 236 187 = (.iaload, 1, 0, 0, []) := rfl
theorem zr_236_188 : z_co 236 188 = (.iload_n 3, 1, 0, 0, []) := rfl
theorem zr_236_189 : z_co 236 189 = (.if_icmp .ne 8, 3, 0, 0, []) := rfl
theorem zr_236_192 : z_co 236 192 = (.iload 4, 2, 0, 0, []) := rfl
theorem zr_236_194 : z_co 236 194 = (.goto 16, 3, 0, 0, []) := rfl
theorem zr_236_197 : z_co 236 197 = (.aload_n 0, 1, 0, 0, []) := rfl
theorem zr_236_198 : z_co 236 198 = (.getfield 13, 3, 12, 3, [1193]) := rfl
theorem zr_236_201 : z_co 236 201 = (.bipush 68, 2, 0, 0, []) := rfl
theorem zr_236_203 : z_co 236 203 = (.iconst 2, 1, 0, 0, []) := rfl
theorem zr_236_204 : z_co 236 204 = (.iload_n 2, 1, 0, 0, []) := rfl
theorem zr_236_205 : z_co 236 205 = (.imul, 1, 0, 0, []) := rfl
theorem zr_236_206 : z_co 236 206 = (.iadd, 1, 0, 0, []) := rfl
theorem zr_236_207 : z_co 236 207 = (.iconst 1, 1, 0, 0, []) := rfl
theorem zr_236_208 : z_co 236 208 = (.iadd, 1, 0, 0, []) := rfl
theorem zr_236_209 : z_co 236 209 = (.iaload, 1, 0, 0, []) := rfl
theorem zr_236_210 : z_co 236 210 = (.iastore, 1, 0, 0, []) := rfl
theorem zr_236_211 : z_co 236 211 = (.iinc 4 1, 3, 0, 0, []) := rfl
theorem zr_236_214 : z_co 236 214 = (.goto (-54), 3, 0, 0, []) := rfl
theorem zr_236_217 : z_co 236 217 = (.iinc 2 1, 3, 0, 0, []) := rfl
theorem zr_236_220 : z_co 236 220 = (.goto (-87), 3, 0, 0, []) := rfl
theorem zr_236_223 : z_co 236 223 = (.aload_n 0, 1, 0, 0, []) := rfl
theorem zr_236_224 : z_co 236 224 = (.iload_n 1, 1, 0, 0, []) := rfl
theorem zr_236_225 : z_co 236 225 = (.invokevirtual 129, 3, 149, 0, [1366, 1368, 46]) := rfl
theorem zr_236_228 : z_co 236 228 = (.ireturn, 1, 0, 0, []) := rfl
theorem zr_237_0 : z_co 237 0 = (.aload_n 0, 1, 0, 0, []) := rfl
theorem zr_237_1 : z_co 237 1 = (.iconst 0, 1, 0, 0, []) := rfl
theorem zr_237_2 : z_co 237 2 = (.putfield 115, 3, 12, 0, [1190]) := rfl
theorem zr_237_5 : z_co 237 5 = (.aload_n 0, 1, 0, 0, []) := rfl
theorem zr_237_6 : z_co 237 6 = (.iload_n 1, 1, 0, 0, []) := rfl
theorem zr_237_7 : z_co 237 7 = (.invokevirtual 148, 3, 155, 0, [1395, 1397, 49]) := rfl
theorem zr_237_10 : z_co 237 10 = (.ifCond .eq 11, 3, 0, 0, []) := rfl
theorem zr_237_13 : z_co 237 13 = (.aload_n 0, 1, 0, 0, []) := rfl
theorem zr_237_14 : z_co 237 14 = (.iload_n 2, 1, 0, 0, []) := rfl
theorem zr_237_15 : z_co 237 15 = (.invokevirtual 148, 3, 155, 0, [1395, 1397, 49]) := rfl
theorem zr_237_18 : z_co 237 18 = (.ifCond .ne 10, 3, 0, 0, []) := rfl
theorem zr_237_21 : z_co 237 21 = (.aload_n 0, 1, 0, 0, []) := rfl
theorem zr_237_22 : z_co 237 22 = (.bipush (-2), 2, 0, 0, []) := rfl
theorem zr_237_24 : z_co 237 24 = (.invokevirtual 129, 3, 149, 0, [1366, 1368, 46]) := rfl
theorem zr_237_27 : z_co 237 27 = (.ireturn, 1, 0, 0, []) := rfl
theorem zr_237_28 : z_co 237 28 = (.iload_n 1, 1, 0, 0, []) := rfl
theorem zr_237_29 : z_co 237 29 = (.iload_n 2, 1, 0, 0, []) := rfl
theorem zr_237_30 : z_co 237 30 = (.if_icmp .ne 10, 3, 0, 0, []) := rfl
theorem zr_237_33 : z_co 237 33 = (.aload_n 0, 1, 0, 0, []) := rfl
theorem zr_237_34 : z_co 237 34 = (.bipush (-3), 2, 0, 0, []) := rfl
theorem zr_237_36 : z_co 237 36 = (.invokevirtual 129, 3, 149, 0, [1366, 1368, 46]) := rfl
theorem zr_237_39 : z_co 237 39 = (.ireturn, 1, 0, 0, []) := rfl
theorem zr_237_40 : z_co 237 40 = (.iconst 0, 1, 0, 0, []) := rfl
theorem zr_237_41 : z_co 237 41 = (.istore_n 3, 1, 0, 0, []) := rfl
theorem zr_237_42 : z_co 237 42 = (.iload_n 3, 1, 0, 0, []) := rfl
theorem zr_237_43 : z_co 237 43 = (.iconst 4, 1, 0, 0, []) := rfl
theorem zr_237_44 : z_co 237 44 = (.if_icmp .ge 65, 3, 0, 0, []) := rfl
theorem zr_237_47 : z_co 237 47 = (.aload_n 0, 1, 0, 0, []) := rfl
theorem zr_237_48 : z_co 237 48 = (.getfield 13, 3, 12, 3, [1193]) := rfl
theorem zr_237_51 : z_co 237 51 = (.bipush 8, 2, 0, 0, []) := rfl
theorem zr_237_53 : z_co 237 53 = (.iconst 4, 1, 0, 0, []) := rfl
theorem zr_237_54 : z_co 237 54 = (.iload_n 1, 1, 0, 0, []) := rfl
theorem zr_237_55 : z_co 237 55 = (.imul, 1, 0, 0, []) := rfl
theorem zr_237_56 : z_co 237 56 = (.iadd, 1, 0, 0, []) := rfl
theorem zr_237_57 : z_co 237 57 = (.iload_n 3, 1, 0, 0, []) := rfl
theorem zr_237_58 : z_co 237 58 = (.iadd, 1, 0, 0, []) := rfl
theorem zr_237_59 : z_co 237 59 = (.iaload, 1, 0, 0, []) := rfl
theorem zr_237_60 : z_co 237 60 = (.istore 4, 2, 0, 0, []) := rfl
theorem zr_237_62 : z_co 237 62 = (.aload_n 0, 1, 0, 0, []) := rfl
theorem zr_237_63 : z_co 237 63 = (.getfield 13, 3, 12, 3, [1193]) := rfl
theorem zr_237_66 : z_co 237 66 = (.bipush 8, 2, 0, 0, []) := rfl
theorem zr_237_68 : z_co 237 68 = (.iconst 4, 1, 0, 0, []) := rfl
theorem zr_237_69 : z_co 237 69 = (.iload_n 1, 1, 0, 0, []) := rfl
theorem zr_237_70 : z_co 237 70 = (.imul, 1, 0, 0, []) := rfl
theorem zr_237_71 : z_co 237 71 = (.iadd, 1, 0, 0, []) := rfl
theorem zr_237_72 : z_co 237 72 = (.iload_n 3, 1, 0, 0, []) := rfl
theorem zr_237_73 : z_co 237 73 = (.iadd, 1, 0, 0, []) := rfl
theorem zr_237_74 : z_co 237 74 = (.aload_n 0, 1, 0, 0, []) := rfl
theorem zr_237_75 : z_co 237 75 = (.getfield 13, 3, 12, 3, [1193]) := rfl
theorem zr_237_78 : z_co 237 78 = (.bipush 8, 2, 0, 0, []) := rfl
theorem zr_237_80 : z_co 237 80 = (.iconst 4, 1, 0, 0, []) := rfl
theorem zr_237_81 : z_co 237 81 = (.iload_n 2, 1, 0, 0, []) := rfl
theorem zr_237_82 : z_co 237 82 = (.imul, 1, 0, 0, []) := rfl
theorem zr_237_83 : z_co 237 83 = (.iadd, 1, 0, 0, []) := rfl
theorem zr_237_84 : z_co 237 84 = (.iload_n 3, 1, 0, 0, []) := rfl
theorem zr_237_85 : z_co 237 85 = (.iadd, 1, 0, 0, []) := rfl
theorem zr_237_86 : z_co 237 86 = (.iaload, 1, 0, 0, []) := rfl
theorem zr_237_87 : z_co 237 87 = (.iastore, 1, 0, 0, []) := rfl
theorem zr_237_88 : z_co 237 88 = (.aload_n 0, 1, 0, 0, []) := rfl
theorem zr_237_89 : z_co 237 89 = (.getfield 13, 3, 12, 3, [1193]) := rfl
theorem zr_237_92 : z_co 237 92 = (.bipush 8, 2, 0, 0, []) := rfl
theorem zr_237_94 : z_co 237 94 = (.iconst 4, 1, 0, 0, []) := rfl
theorem zr_237_95 : z_co 237 95 = (.iload_n 2, 1, 0, 0, []) := rfl
theorem zr_237_96 : z_co 237 96 = (.imul, 1, 0, 0, []) := rfl
theorem zr_237_97 : z_co 237 97 = (.iadd, 1, 0, 0, []) := rfl
theorem zr_237_98 : z_co 237 98 = (.iload_n 3, 1, 0, 0, []) := rfl
theorem zr_237_99 : z_co 237 99 = (.iadd, 1, 0, 0, []) := rfl
theorem zr_237_100 : z_co 237 100 = (.iload 4, 2, 0, 0, []) := rfl
theorem zr_237_102 : z_co 237 102 = (.iastore, 1, 0, 0, []) := rfl
theorem zr_237_103 : z_co 237 103 = (.iinc 3 1, 3, 0, 0, []) := rfl
theorem zr_237_106 : z_co 237 106 = (.goto (-64), 3, 0, 0, []) := rfl
theorem zr_237_109 : z_co 237 109 = (.iconst 0, 1, 0, 0, []) := rfl
theorem zr_237_110 : z_co 237 110 = (.istore_n 3, 1, 0, 0, []) := rfl
theorem zr_237_111 : z_co 237 111 = (.iload_n 3, 1, 0, 0, []) := rfl
theorem zr_237_112 : z_co 237 112 = (.aload_n 0, 1, 0, 0, []) := rfl
theorem zr_237_113 : z_co 237 113 = (.getfield 13, 3, 12, 3, [1193]) := rfl
theorem zr_237_116 : z_co 237 116 = (.iconst 4, 1, 0, 0, []) := rfl
theorem zr_237_117 : z_co 237 117 = (.iaload, 1, 0, 0, []) := rfl
theorem zr_237_118 : z_co 237 118 = (.if_icmp .ge 59, 3, 0, 0, []) := rfl
theorem zr_237_121 : z_co 237 121 = (.aload_n 0, 1, 0, 0, []) := rfl
theorem zr_237_122 : z_co 237 122 = (.getfield 13, 3, 12, 3, [1193]) := rfl
theorem zr_237_125 : z_co 237 125 = (.bipush 68, 2, 0, 0, []) := rfl
theorem zr_237_127 : z_co 237 127 = (.iconst 2, 1, 0, 0, []) := rfl
theorem zr_237_128 : z_co 237 128 = (.iload_n 3, 1, 0, 0, []) := rfl
theorem zr_237_129 : z_co 237 129 = (.imul, 1, 0, 0, []) := rfl
theorem zr_237_130 : z_co 237 130 = (.iadd, 1, 0, 0, []) := rfl
theorem zr_237_131 : z_co 237 131 = (.iconst 1, 1, 0, 0, []) := rfl
theorem zr_237_132 : z_co 237 132 = (.iadd, 1, 0, 0, []) := rfl
theorem zr_237_133 : z_co 237 133 = (.iaload, 1, 0, 0, []) := rfl
theorem zr_237_134 : z_co 237 134 = (.istore 4, 2, 0, 0, []) := rfl
theorem zr_237_136 : z_co 237 136 = (.aload_n 0, 1, 0, 0, []) := rfl
theorem zr_237_137 : z_co 237 137 = (.getfield 13, 3, 12, 3, [1193]) := rfl
theorem zr_237_140 : z_co 237 140 = (.bipush 68, 2, 0, 0, []) := rfl
theorem zr_237_142 : z_co 237 142 = (.iconst 2, 1, 0, 0, []) := rfl
theorem zr_237_143 : z_co 237 143 = (.iload_n 3, 1, 0, 0, []) := rfl
theorem zr_237_144 : z_co 237 144 = (.imul, 1, 0, 0, []) := rfl
theorem zr_237_145 : z_co 237 145 = (.iadd, 1, 0, 0, []) := rfl
theorem zr_237_146 : z_co 237 146 = (.iconst 1, 1, 0, 0, []) := rfl
theorem zr_237_147 : z_co 237 147 = (.iadd, 1, 0, 0, []) := rfl
theorem zr_237_148 : z_co 237 148 = (.iload 4, 2, 0, 0, []) := rfl
theorem zr_237_150 : z_co 237 150 = (.iload_n 1, 1, 0, 0, []) := rfl
theorem zr_237_151 : z_co 237 151 = (.if_icmp .ne 7, 3, 0, 0, []) := rfl
theorem zr_237_154 : z_co 237 154 = (.iload_n 2, 1, 0, 0, []) := rfl
theorem zr_237_155 : z_co 237 155 = (.goto 15, 3, 0, 0, []) := rfl
theorem zr_237_158 : z_co 237 158 = (.iload 4, 2, 0, 0, []) := rfl
theorem zr_237_160 : z_co 237 160 = (.iload_n 2, 1, 0, 0, []) := rfl
theorem zr_237_161 : z_co 237 161 = (.if_icmp .ne 7, 3, 0, 0, []) := rfl
theorem zr_237_164 : z_co 237 164 = (.iload_n 1, 1, 0, 0, []) := rfl
theorem zr_237_165 : z_co 237 165 = (.goto 5, 3, 0, 0, []) := rfl
theorem zr_237_168 : z_co 237 168 = (.iload 4, 2, 0, 0, []) := rfl
theorem zr_237_170 : z_co 237 170 = (.iastore, 1, 0, 0, []) := rfl
theorem zr_237_171 : z_co 237 171 = (.iinc 3 1, 3, 0, 0, []) := rfl
theorem zr_237_174 : z_co 237 174 = (.goto (-63), 3, 0, 0, []) := rfl
theorem zr_237_177 : z_co 237 177 = (.aload_n 0, 1, 0, 0, []) := rfl
theorem zr_237_178 : z_co 237 178 = (.iconst 0, 1, 0, 0, []) := rfl
theorem zr_237_179 : z_co 237 179 = (.invokevirtual 129, 3, 149, 0, [1366, 1368, 46]) := rfl
theorem zr_237_182 : z_co 237 182 = (.ireturn, 1, 0, 0, []) := rfl
theorem zr_238_0 : z_co 238 0 = (.aload_n 0, 1, 0, 0, []) := rfl
theorem zr_238_1 : z_co 238 1 = (.iconst 0, 1, 0, 0, []) := rfl
theorem zr_238_2 : z_co 238 2 = (.putfield 115, 3, 12, 0, [1190]) := rfl
theorem zr_238_5 : z_co 238 5 = (.iload_n 1, 1, 0, 0, []) := rfl
theorem zr_238_6 : z_co 238 6 = (.i2l, 1, 0, 0, []) := rfl
theorem zr_238_7 : z_co 238 7 = (.lconst 0, 1, 0, 0, []) := rfl
theorem zr_238_8 : z_co 238 8 = (.iconst 1, 1, 0, 0, []) := rfl
theorem zr_238_9 : z_co 238 9 = (.aload_n 0, 1, 0, 0, []) := rfl
theorem zr_238_10 : z_co 238 10 = (.invokevirtual 132, 3, 154, 0, [1383, 1385, 47]) := rfl
theorem zr_238_13 : z_co 238 13 = (.ishl, 1, 0, 0, []) := rfl
theorem zr_238_14 : z_co 238 14 = (.i2l, 1, 0, 0, []) := rfl
theorem zr_238_15 : z_co 238 15 = (.lconst 1, 1, 0, 0, []) := rfl
theorem zr_238_16 : z_co 238 16 = (.lsub, 1, 0, 0, []) := rfl
theorem zr_238_17 : z_co 238 17 = (.invokestatic 125, 3, 145, 0, [1363, 1364]) := rfl
theorem zr_238_20 : z_co 238 20 = (.ifCond .eq 15, 3, 0, 0, []) := rfl
theorem zr_238_23 : z_co 238 23 = (.iload_n 2, 1, 0, 0, []) := rfl
theorem zr_238_24 : z_co 238 24 = (.i2l, 1, 0, 0, []) := rfl
theorem zr_238_25 : z_co 238 25 = (.lconst 0, 1, 0, 0, []) := rfl
theorem zr_238_26 : z_co 238 26 = (.ldc2_w 402, 3, 2, 0, [1662]) := rfl
theorem zr_238_29 : z_co 238 29 = (.invokestatic 125, 3, 145, 0, [1363, 1364]) := rfl
theorem zr_238_32 : z_co 238 32 = (.ifCond .ne 5, 3, 0, 0, []) := rfl
theorem zr_238_35 : z_co 238 35 = (.iconst (-1), 1, 0, 0, []) := rfl
theorem zr_238_36 : z_co 238 36 = (.ireturn, 1, 0, 0, []) := rfl
theorem zr_238_37 : z_co 238 37 = (.aload_n 0, 1, 0, 0, []) := rfl
theorem zr_238_38 : z_co 238 38 = (.invokevirtual 158, 3, 201, 0, [1412, 1414, 52]) := rfl
theorem zr_238_41 : z_co 238 41 = (.iconst 0, 1, 0, 0, []) := rfl
theorem zr_238_42 : z_co 238 42 = (.istore_n 3, 1, 0, 0, []) := rfl
theorem zr_238_43 : z_co 238 43 = (.iload_n 3, 1, 0, 0, []) := rfl
theorem zr_238_44 : z_co 238 44 = (.aload_n 0, 1, 0, 0, []) := rfl
theorem zr_238_45 : z_co 238 45 = (.getfield 13, 3, 12, 3, [1193]) := rfl
theorem zr_238_48 : z_co 238 48 = (.iconst 1, 1, 0, 0, []) := rfl
theorem zr_238_49 : z_co 238 49 = (.iaload, 1, 0, 0, []) := rfl
theorem zr_238_50 : z_co 238 50 = (.if_icmp .ge 87, 3, 0, 0, []) := rfl
theorem zr_238_53 : z_co 238 53 = (.aload_n 0, 1, 0, 0, []) := rfl
theorem zr_238_54 : z_co 238 54 = (.getfield 106, 3, 12, 51, [1241]) := rfl
theorem zr_238_57 : z_co 238 57 = (.iload_n 3, 1, 0, 0, []) := rfl
theorem zr_238_58 : z_co 238 58 = (.iconst (-1), 1, 0, 0, []) := rfl
theorem zr_238_59 : z_co 238 59 = (.iastore, 1, 0, 0, []) := rfl
theorem zr_238_60 : z_co 238 60 = (.aload_n 0, 1, 0, 0, []) := rfl
theorem zr_238_61 : z_co 238 61 = (.invokevirtual 132, 3, 154, 0, [1383, 1385, 47]) := rfl
theorem zr_238_64 : z_co 238 64 = (.ifCond .ne 7, 3, 0, 0, []) := rfl
theorem zr_238_67 : z_co 238 67 = (.iconst (-1), 1, 0, 0, []) := rfl
theorem zr_238_68 : z_co 238 68 = (.goto 14, 3, 0, 0, []) := rfl
theorem zr_238_71 : z_co 238 71 = (.aload_n 0, 1, 0, 0, []) := rfl
theorem zr_238_72 : z_co 238 72 = (.iload_n 3, 1, 0, 0, []) := rfl
theorem zr_238_73 : z_co 238 73 = (.aload_n 0, 1, 0, 0, []) := rfl
theorem zr_238_74 : z_co 238 74 = (.invokevirtual 132, 3, 154, 0, [1383, 1385, 47]) := rfl
theorem zr_238_77 : z_co 238 77 = (.iconst 1, 1, 0, 0, []) := rfl
theorem zr_238_78 : z_co 238 78 = (.isub, 1, 0, 0, []) := rfl
theorem zr_238_79 : z_co 238 79 = (.invokevirtual 372, 3, 211, 0, [1630, 1632, 85]) := rfl
theorem zr_238_82 : z_co 238 82 = (.istore 4, 2, 0, 0, []) := rfl
theorem zr_238_84 : z_co 238 84 = (.iconst 0, 1, 0, 0, []) := rfl
theorem zr_238_85 : z_co 238 85 = (.istore 5, 2, 0, 0, []) := rfl
theorem zr_238_87 : z_co 238 87 = (.iload 5, 2, 0, 0, []) := rfl
theorem zr_238_89 : z_co 238 89 = (.iload 4, 2, 0, 0, []) := rfl
theorem zr_238_91 : z_co 238 91 = (.if_icmp .ge 40, 3, 0, 0, []) := rfl
theorem zr_238_94 : z_co 238 94 = (.aload_n 0, 1, 0, 0, []) := rfl
theorem zr_238_95 : z_co 238 95 = (.getfield 106, 3, 12, 51, [1241]) := rfl
theorem zr_238_98 : z_co 238 98 = (.iload_n 3, 1, 0, 0, []) := rfl
theorem zr_238_99 : z_co 238 99 = (.iload 5, 2, 0, 0, []) := rfl
theorem zr_238_101 : z_co 238 101 = (.ifCond .ne 7, 3, 0, 0, []) := rfl
theorem zr_238_104 : z_co 238 104 = (.iconst 0, 1, 0, 0, []) := rfl
theorem zr_238_105 : z_co 238 105 = (.goto 9, 3, 0, 0, []) := rfl
theorem zr_238_108 : z_co 238 108 = (.aload_n 0, 1, 0, 0, []) := rfl
theorem zr_238_109 : z_co 238 109 = (.getfield 106, 3, 12, 51, [1241]) := rfl
theorem zr_238_112 : z_co 238 112 = (.iload_n 3, 1, 0, 0, []) := rfl
theorem zr_238_113 : z_co 238 113 = (.iaload, 1, 0, 0, []) := rfl
theorem zr_238_114 : z_co 238 114 = (.iconst 1, 1, 0, 0, []) := rfl
theorem zr_238_115 : z_co 238 115 = (.aload_n 0, 1, 0, 0, []) := rfl
theorem zr_238_116 : z_co 238 116 = (.getfield 88, 3, 12, 38, [1228]) := rfl
theorem zr_238_119 : z_co 238 119 = (.iload 5, 2, 0, 0, []) := rfl
theorem zr_238_121 : z_co 238 121 = (.iaload, 1, 0, 0, []) := rfl
theorem zr_238_122 : z_co 238 122 = (.ishl, 1, 0, 0, []) := rfl
theorem zr_238_123 : z_co 238 123 = (.ior, 1, 0, 0, []) := rfl
theorem zr_238_124 : z_co 238 124 = (.iastore, 1, 0, 0, []) := rfl
theorem zr_238_125 : z_co 238 125 = (.iinc 5 1, 3, 0, 0, []) := rfl
theorem zr_238_128 : z_co 238 128 = (.goto (-41), 3, 0, 0, []) := rfl
theorem zr_238_131 : z_co 238 131 = (.iinc 3 1, 3, 0, 0, []) := rfl
theorem zr_238_134 : z_co 238 134 = (.goto (-91), 3, 0, 0, []) := rfl
theorem zr_238_137 : z_co 238 137 = (.iconst 0, 1, 0, 0, []) := rfl
theorem zr_238_138 : z_co 238 138 = (.istore_n 3, 1, 0, 0, []) := rfl
theorem zr_238_139 : z_co 238 139 = (.iconst (-1), 1, 0, 0, []) := rfl
theorem zr_238_140 : z_co 238 140 = (.istore 4, 2, 0, 0, []) := rfl
theorem zr_238_142 : z_co 238 142 = (.bipush 63, 2, 0, 0, []) := rfl
theorem zr_238_144 : z_co 238 144 = (.istore 5, 2, 0, 0, []) := rfl
theorem zr_238_146 : z_co 238 146 = (.iconst 0, 1, 0, 0, []) := rfl
theorem zr_238_147 : z_co 238 147 = (.istore 6, 2, 0, 0, []) := rfl
theorem zr_238_149 : z_co 238 149 = (.iload 6, 2, 0, 0, []) := rfl
theorem zr_238_151 : z_co 238 151 = (.iconst 1, 1, 0, 0, []) := rfl
theorem zr_238_152 : z_co 238 152 = (.aload_n 0, 1, 0, 0, []) := rfl
theorem zr_238_153 : z_co 238 153 = (.getfield 13, 3, 12, 3, [1193]) := rfl
theorem zr_238_156 : z_co 238 156 = (.iconst 1, 1, 0, 0, []) := rfl
theorem zr_238_157 : z_co 238 157 = (.iaload, 1, 0, 0, []) := rfl
theorem zr_238_158 : z_co 238 158 = (.ishl, 1, 0, 0, []) := rfl
theorem zr_238_159 : z_co 238 159 = (.if_icmp .ge 141, 3, 0, 0, []) := rfl
theorem zr_238_162 : z_co 238 162 = (.iconst 0, 1, 0, 0, []) := rfl
theorem zr_238_163 : z_co 238 163 = (.istore 7, 2, 0, 0, []) := rfl
theorem zr_238_165 : z_co 238 165 = (.iconst 1, 1, 0, 0, []) := rfl
theorem zr_238_166 : z_co 238 166 = (.istore 8, 2, 0, 0, []) := rfl
theorem zr_238_168 : z_co 238 168 = (.iconst 0, 1, 0, 0, []) := rfl
theorem zr_238_169 : z_co 238 169 = (.istore 9, 2, 0, 0, []) := rfl
theorem zr_238_171 : z_co 238 171 = (.iload 9, 2, 0, 0, []) := rfl
theorem zr_238_173 : z_co 238 173 = (.aload_n 0, 1, 0, 0, []) := rfl
theorem zr_238_174 : z_co 238 174 = (.getfield 13, 3, 12, 3, [1193]) := rfl
theorem zr_238_177 : z_co 238 177 = (.iconst 1, 1, 0, 0, []) := rfl
theorem zr_238_178 : z_co 238 178 = (.iaload, 1, 0, 0, []) := rfl
theorem zr_238_179 : z_co 238 179 = (.if_icmp .ge 68, 3, 0, 0, []) := rfl
theorem zr_238_182 : z_co 238 182 = (.iload 8, 2, 0, 0, []) := rfl
theorem zr_238_184 : z_co 238 184 = (.ifCond .eq 28, 3, 0, 0, []) := rfl
theorem zr_238_187 : z_co 238 187 = (.iload 6, 2, 0, 0, []) := rfl
theorem zr_238_189 : z_co 238 189 = (.iload 9, 2, 0, 0, []) := rfl
theorem zr_238_191 : z_co 238 191 = (.invokestatic 359, 3, 146, 0, [1615, 1616]) := rfl
theorem zr_238_194 : z_co 238 194 = (.ifCond .eq 14, 3, 0, 0, []) := rfl
theorem zr_238_197 : z_co 238 197 = (.aload_n 0, 1, 0, 0, []) := rfl
theorem zr_238_198 : z_co 238 198 = (.getfield 106, 3, 12, 51, [1241]) := rfl
theorem zr_238_201 : z_co 238 201 = (.iload 9, 2, 0, 0, []) := rfl
theorem zr_238_203 : z_co 238 203 = (.iaload, 1, 0, 0, []) := rfl
theorem zr_238_204 : z_co 238 204 = (.iconst (-1), 1, 0, 0, []) := rfl
theorem zr_238_205 : z_co 238 205 = (.if_icmp .eq 7, 3, 0, 0, []) := rfl
theorem zr_238_208 : z_co 238 208 = (.iconst 1, 1, 0, 0, []) := rfl
theorem zr_238_209 : z_co 238 209 = (.goto 4, 3, 0, 0, []) := rfl
theorem zr_238_212 : z_co 238 212 = (.iconst 0, 1, 0, 0, []) := rfl
theorem zr_238_213 : z_co 238 213 = (.istore 8, 2, 0, 0, []) := rfl
theorem zr_238_215 : z_co 238 215 = (.iload 7, 2, 0, 0, []) := rfl
theorem zr_238_217 : z_co 238 217 = (.iload 6, 2, 0, 0, []) := rfl
theorem zr_238_219 : z_co 238 219 = (.iload 9, 2, 0, 0, []) := rfl
theorem zr_238_221 : z_co 238 221 = (.invokestatic 359, 3, 146, 0, [1615, 1616]) := rfl
theorem zr_238_224 : z_co 238 224 = (.ifCond .eq 13, 3, 0, 0, []) := rfl
theorem zr_238_227 : z_co 238 227 = (.aload_n 0, 1, 0, 0, []) := rfl
theorem zr_238_228 : z_co 238 228 = (.getfield 106, 3, 12, 51, [1241]) := rfl
theorem zr_238_231 : z_co 238 231 = (.iload 9, 2, 0, 0, []) := rfl
theorem zr_238_233 : z_co 238 233 = (.iaload, 1, 0, 0, []) := rfl
theorem zr_238_234 : z_co 238 234 = (.goto 4, 3, 0, 0, []) := rfl
theorem zr_238_237 : z_co 238 237 = (.iconst 0, 1, 0, 0, []) := rfl
theorem zr_238_238 : z_co 238 238 = (.ior, 1, 0, 0, []) := rfl
theorem zr_238_239 : z_co 238 239 = (.istore 7, 2, 0, 0, []) := rfl
theorem zr_238_241 : z_co 238 241 = (.iinc 9 1, 3, 0, 0, []) := rfl
theorem zr_238_244 : z_co 238 244 = (.goto (-73), 3, 0, 0, []) := rfl
theorem zr_238_247 : z_co 238 247 = (.iload 8, 2, 0, 0, []) := rfl
theorem zr_238_249 : z_co 238 249 = (.ifCond .eq 45, 3, 0, 0, []) := rfl
theorem zr_238_252 : z_co 238 252 = (.iload 7, 2, 0, 0, []) := rfl
theorem zr_238_254 : z_co 238 254 = (.iload_n 1, 1, 0, 0, []) := rfl
theorem zr_238_255 : z_co 238 255 = (.if_icmp .ne 39, 3, 0, 0, []) := rfl
theorem zr_238_258 : z_co 238 258 = (.iload_n 3, 1, 0, 0, []) := rfl
theorem zr_238_259 : z_co 238 259 = (.ifCond .eq 16, 3, 0, 0, []) := rfl
theorem zr_238_262 : z_co 238 262 = (.iload 6, 2, 0, 0, []) := rfl
theorem zr_238_264 : z_co 238 264 = (.invokestatic 387, 3, 147, 0, [1651, 1652]) := rfl
theorem zr_238_267 : z_co 238 267 = (.iload 4, 2, 0, 0, []) := rfl
theorem zr_238_269 : z_co 238 269 = (.invokestatic 387, 3, 147, 0, [1651, 1652]) := rfl
theorem zr_238_272 : z_co 238 272 = (.if_icmp .ge 8, 3, 0, 0, []) := rfl
theorem zr_238_275 : z_co 238 275 = (.iload 6, 2, 0, 0, []) := rfl
theorem zr_238_277 : z_co 238 277 = (.goto 5, 3, 0, 0, []) := rfl
theorem zr_238_280 : z_co 238 280 = (.iload 4, 2, 0, 0, []) := rfl
theorem zr_238_282 : z_co 238 282 = (.istore 4, 2, 0, 0, []) := rfl
theorem zr_238_284 : z_co 238 284 = (.iload 5, 2, 0, 0, []) := rfl
theorem zr_238_286 : z_co 238 286 = (.iload 6, 2, 0, 0, []) := rfl
theorem zr_238_288 : z_co 238 288 = (.iand, 1, 0, 0, []) := rfl
theorem zr_238_289 : z_co 238 289 = (.istore 5, 2, 0, 0, []) := rfl
theorem zr_238_291 : z_co 238 291 = (.iinc 3 1, 3, 0, 0, []) := rfl
theorem zr_238_294 : z_co 238 294 = (.iinc 6 1, 3, 0, 0, []) := rfl
theorem zr_238_297 : z_co 238 297 = (.goto (-148), 3, 0, 0, []) := rfl
theorem zr_238_300 : z_co 238 300 = (.iload_n 2, 1, 0, 0, []) := rfl
theorem zr_238_301 : z_co 238 301 = (.ifCond .ne 7, 3, 0, 0, []) := rfl
theorem zr_238_304 : z_co 238 304 = (.iload_n 3, 1, 0, 0, []) := rfl
theorem zr_238_305 : z_co 238 305 = (.goto 23, 3, 0, 0, []) := rfl
theorem zr_238_308 : z_co 238 308 = (.iload_n 3, 1, 0, 0, []) := rfl
theorem zr_238_309 : z_co 238 309 = (.ifCond .ne 7, 3, 0, 0, []) := rfl
theorem zr_238_312 : z_co 238 312 = (.iconst (-1), 1, 0, 0, []) := rfl
theorem zr_238_313 : z_co 238 313 = (.goto 15, 3, 0, 0, []) := rfl
theorem zr_238_316 : z_co 238 316 = (.iload_n 2, 1, 0, 0, []) := rfl
theorem zr_238_317 : z_co 238 317 = (.iconst 1, 1, 0, 0, []) := rfl
theorem zr_238_318 : z_co 238 318 = (.if_icmp .ne 8, 3, 0, 0, []) := rfl
theorem zr_238_321 : z_co 238 321 = (.iload 4, 2, 0, 0, []) := rfl
theorem zr_238_323 : z_co 238 323 = (.goto 5, 3, 0, 0, []) := rfl
theorem zr_238_326 : z_co 238 326 = (.iload 5, 2, 0, 0, []) := rfl
theorem zr_238_328 : z_co 238 328 = (.ireturn, 1, 0, 0, []) := rfl
theorem zr_239_0 : z_co 239 0 = (.iconst 0, 1, 0, 0, []) := rfl
theorem zr_239_1 : z_co 239 1 = (.istore_n 1, 1, 0, 0, []) := rfl
theorem zr_239_2 : z_co 239 2 = (.aload_n 0, 1, 0, 0, []) := rfl
theorem zr_239_3 : z_co 239 3 = (.invokevirtual 132, 3, 154, 0, [1383, 1385, 47]) := rfl
theorem zr_239_6 : z_co 239 6 = (.iconst 1, 1, 0, 0, []) := rfl
theorem zr_239_7 : z_co 239 7 = (.isub, 1, 0, 0, []) := rfl
theorem zr_239_8 : z_co 239 8 = (.istore_n 2, 1, 0, 0, []) := rfl
theorem zr_239_9 : z_co 239 9 = (.iload_n 2, 1, 0, 0, []) := rfl
theorem zr_239_10 : z_co 239 10 = (.ifCond .lt 122, 3, 0, 0, []) := rfl
theorem zr_239_13 : z_co 239 13 = (.aload_n 0, 1, 0, 0, []) := rfl
theorem zr_239_14 : z_co 239 14 = (.getfield 109, 3, 12, 52, [1242]) := rfl
theorem zr_239_17 : z_co 239 17 = (.iload_n 2, 1, 0, 0, []) := rfl
theorem zr_239_18 : z_co 239 18 = (.iconst 1, 1, 0, 0, []) := rfl
theorem zr_239_19 : z_co 239 19 = (.iastore, 1, 0, 0, []) := rfl
theorem zr_239_20 : z_co 239 20 = (.iload_n 2, 1, 0, 0, []) := rfl
theorem zr_239_21 : z_co 239 21 = (.iconst 1, 1, 0, 0, []) := rfl
theorem zr_239_22 : z_co 239 22 = (.iadd, 1, 0, 0, []) := rfl
theorem zr_239_23 : z_co 239 23 = (.istore_n 3, 1, 0, 0, []) := rfl
theorem zr_239_24 : z_co 239 24 = (.iload_n 3, 1, 0, 0, []) := rfl
theorem zr_239_25 : z_co 239 25 = (.aload_n 0, 1, 0, 0, []) := rfl
theorem zr_239_26 : z_co 239 26 = (.invokevirtual 132, 3, 154, 0, [1383, 1385, 47]) := rfl
theorem zr_239_29 : z_co 239 29 = (.if_icmp .ge 76, 3, 0, 0, []) := rfl
theorem zr_239_32 : z_co 239 32 = (.aload_n 0, 1, 0, 0, []) := rfl
theorem zr_239_33 : z_co 239 33 = (.iload_n 3, 1, 0, 0, []) := rfl
theorem zr_239_34 : z_co 239 34 = (.iconst 0, 1, 0, 0, []) := rfl
theorem zr_239_35 : z_co 239 35 = (.invokevirtual 161, 3, 157, 0, [1420, 1422, 54]) := rfl
theorem zr_239_38 : z_co 239 38 = (.aload_n 0, 1, 0, 0, []) := rfl
theorem zr_239_39 : z_co 239 39 = (.iload_n 2, 1, 0, 0, []) := rfl
theorem zr_239_40 : z_co 239 40 = (.iconst 0, 1, 0, 0, []) := rfl
theorem zr_239_41 : z_co 239 41 = (.invokevirtual 161, 3, 157, 0, [1420, 1422, 54]) := rfl
theorem zr_239_44 : z_co 239 44 = (.if_icmp .gt 7, 3, 0, 0, []) := rfl
theorem zr_239_47 : z_co 239 47 = (.iconst 1, 1, 0, 0, []) := rfl
theorem zr_239_48 : z_co 239 48 = (.goto 4, 3, 0, 0, []) := rfl
theorem zr_239_51 : z_co 239 51 = (.iconst 0, 1, 0, 0, []) := rfl
theorem zr_239_52 : z_co 239 52 = (.istore 4, 2, 0, 0, []) := rfl
theorem zr_239_54 : z_co 239 54 = (.aload_n 0, 1, 0, 0, []) := rfl
theorem zr_239_55 : z_co 239 55 = (.getfield 109, 3, 12, 52, [1242]) := rfl
theorem zr_239_58 : z_co 239 58 = (.iload_n 2, 1, 0, 0, []) := rfl
theorem zr_239_59 : z_co 239 59 = (.iload 4, 2, 0, 0, []) := rfl
theorem zr_239_61 : z_co 239 61 = (.ifCond .eq 31, 3, 0, 0, []) := rfl
theorem zr_239_64 : z_co 239 64 = (.aload_n 0, 1, 0, 0, []) := rfl
theorem zr_239_65 : z_co 239 65 = (.getfield 109, 3, 12, 52, [1242]) := rfl
theorem zr_239_68 : z_co 239 68 = (.iload_n 3, 1, 0, 0, []) := rfl
theorem zr_239_69 : z_co 239 69 = (.iaload, 1, 0, 0, []) := rfl
theorem zr_239_70 : z_co 239 70 = (.iconst 1, 1, 0, 0, []) := rfl
theorem zr_239_71 : z_co 239 71 = (.iadd, 1, 0, 0, []) := rfl
theorem zr_239_72 : z_co 239 72 = (.aload_n 0, 1, 0, 0, []) := rfl
theorem zr_239_73 : z_co 239 73 = (.getfield 109, 3, 12, 52, [1242]) := rfl
theorem zr_239_76 : z_co 239 76 = (.iload_n 2, 1, 0, 0, []) := rfl
theorem zr_239_77 : z_co 239 77 = (.iaload, 1, 0, 0, []) := rfl
theorem zr_239_78 : z_co 239 78 = (.if_icmp .le 14, 3, 0, 0, []) := rfl
theorem zr_239_81 : z_co 239 81 = (.aload_n 0, 1, 0, 0, []) := rfl
theorem zr_239_82 : z_co 239 82 = (.getfield 109, 3, 12, 52, [1242]) := rfl
theorem zr_239_85 : z_co 239 85 = (.iload_n 3, 1, 0, 0, []) := rfl
theorem zr_239_86 : z_co 239 86 = (.iaload, 1, 0, 0, []) := rfl
theorem zr_239_87 : z_co 239 87 = (.iconst 1, 1, 0, 0, []) := rfl
theorem zr_239_88 : z_co 239 88 = (.iadd, 1, 0, 0, []) := rfl
theorem zr_239_89 : z_co 239 89 = (.goto 9, 3, 0, 0, []) := rfl
theorem zr_239_92 : z_co 239 92 = (.aload_n 0, 1, 0, 0, []) := rfl
theorem zr_239_93 : z_co 239 93 = (.getfield 109, 3, 12, 52, [1242]) := rfl
theorem zr_239_96 : z_co 239 96 = (.iload_n 2, 1, 0, 0, []) := rfl
theorem zr_239_97 : z_co 239 97 = (.iaload, 1, 0, 0, []) := rfl
theorem zr_239_98 : z_co 239 98 = (.iastore, 1, 0, 0, []) := rfl
theorem zr_239_99 : z_co 239 99 = (.iinc 3 1, 3, 0, 0, []) := rfl
theorem zr_239_102 : z_co 239 102 = (.goto (-78), 3, 0, 0, []) := rfl
theorem zr_239_105 : z_co 239 105 = (.aload_n 0, 1, 0, 0, []) := rfl
theorem zr_239_106 : z_co 239 106 = (.getfield 109, 3, 12, 52, [1242]) := rfl
theorem zr_239_109 : z_co 239 109 = (.iload_n 2, 1, 0, 0, []) := rfl
theorem zr_239_110 : z_co 239 110 = (.iaload, 1, 0, 0, []) := rfl
theorem zr_239_111 : z_co 239 111 = (.iload_n 1, 1, 0, 0, []) := rfl
theorem zr_239_112 : z_co 239 112 = (.if_icmp .le 12, 3, 0, 0, []) := rfl
theorem zr_239_115 : z_co 239 115 = (.aload_n 0, 1, 0, 0, []) := rfl
theorem zr_239_116 : z_co 239 116 = (.getfield 109, 3, 12, 52, [1242]) := rfl
theorem zr_239_119 : z_co 239 119 = (.iload_n 2, 1, 0, 0, []) := rfl
theorem zr_239_120 : z_co 239 120 = (.iaload, 1, 0, 0, []) := rfl
theorem zr_239_121 : z_co 239 121 = (.goto 4, 3, 0, 0, []) := rfl
theorem zr_239_124 : z_co 239 124 = (.iload_n 1, 1, 0, 0, []) := rfl
theorem zr_239_125 : z_co 239 125 = (.istore_n 1, 1, 0, 0, []) := rfl
theorem zr_239_126 : z_co 239 126 = (.iinc 2 (-1), 3, 0, 0, []) := rfl
theorem zr_239_129 : z_co 239 129 = (.goto (-120), 3, 0, 0, []) := rfl
theorem zr_239_132 : z_co 239 132 = (.iload_n 1, 1, 0, 0, []) := rfl
theorem zr_239_133 : z_co 239 133 = (.ireturn, 1, 0, 0, []) := rfl
theorem zr_240_0 : z_co 240 0 = (.aload_n 0, 1, 0, 0, []) := rfl
theorem zr_240_1 : z_co 240 1 = (.iconst 0, 1, 0, 0, []) := rfl
theorem zr_240_2 : z_co 240 2 = (.putfield 115, 3, 12, 0, [1190]) := rfl
theorem zr_240_5 : z_co 240 5 = (.aload_n 0, 1, 0, 0, []) := rfl
theorem zr_240_6 : z_co 240 6 = (.invokevirtual 452, 3, 239, 0, [1754, 1756, 101]) := rfl
theorem zr_240_9 : z_co 240 9 = (.istore_n 2, 1, 0, 0, []) := rfl
theorem zr_240_10 : z_co 240 10 = (.iload_n 1, 1, 0, 0, []) := rfl
theorem zr_240_11 : z_co 240 11 = (.iconst (-1), 1, 0, 0, []) := rfl
theorem zr_240_12 : z_co 240 12 = (.if_icmp .ne 10, 3, 0, 0, []) := rfl
theorem zr_240_15 : z_co 240 15 = (.aload_n 0, 1, 0, 0, []) := rfl
theorem zr_240_16 : z_co 240 16 = (.invokevirtual 132, 3, 154, 0, [1383, 1385, 47]) := rfl
theorem zr_240_19 : z_co 240 19 = (.iload_n 2, 1, 0, 0, []) := rfl
theorem zr_240_20 : z_co 240 20 = (.isub, 1, 0, 0, []) := rfl
theorem zr_240_21 : z_co 240 21 = (.ireturn, 1, 0, 0, []) := rfl
theorem zr_240_22 : z_co 240 22 = (.iload_n 1, 1, 0, 0, []) := rfl
theorem zr_240_23 : z_co 240 23 = (.i2l, 1, 0, 0, []) := rfl
theorem zr_240_24 : z_co 240 24 = (.lconst 0, 1, 0, 0, []) := rfl
theorem zr_240_25 : z_co 240 25 = (.iload_n 2, 1, 0, 0, []) := rfl
theorem zr_240_26 : z_co 240 26 = (.i2l, 1, 0, 0, []) := rfl
theorem zr_240_27 : z_co 240 27 = (.lconst 1, 1, 0, 0, []) := rfl
theorem zr_240_28 : z_co 240 28 = (.lsub, 1, 0, 0, []) := rfl
theorem zr_240_29 : z_co 240 29 = (.invokestatic 125, 3, 145, 0, [1363, 1364]) := rfl
theorem zr_240_32 : z_co 240 32 = (.ifCond .ne 5, 3, 0, 0, []) := rfl
theorem zr_240_35 : z_co 240 35 = (.iconst (-1), 1, 0, 0, []) := rfl
theorem zr_240_36 : z_co 240 36 = (.ireturn, 1, 0, 0, []) := rfl
theorem zr_240_37 : z_co 240 37 = (.iconst (-1), 1, 0, 0, []) := rfl
theorem zr_240_38 : z_co 240 38 = (.istore_n 3, 1, 0, 0, []) := rfl
theorem zr_240_39 : z_co 240 39 = (.iconst 0, 1, 0, 0, []) := rfl
theorem zr_240_40 : z_co 240 40 = (.istore 4, 2, 0, 0, []) := rfl
theorem zr_240_42 : z_co 240 42 = (.iload 4, 2, 0, 0, []) := rfl
theorem zr_240_44 : z_co 240 44 = (.iload_n 1, 1, 0, 0, []) := rfl
theorem zr_240_45 : z_co 240 45 = (.if_icmp .gt 58, 3, 0, 0, []) := rfl
theorem zr_240_48 : z_co 240 48 = (.iload_n 3, 1, 0, 0, []) := rfl
theorem zr_240_49 : z_co 240 49 = (.iconst 1, 1, 0, 0, []) := rfl
theorem zr_240_50 : z_co 240 50 = (.iadd, 1, 0, 0, []) := rfl
theorem zr_240_51 : z_co 240 51 = (.istore 5, 2, 0, 0, []) := rfl
theorem zr_240_53 : z_co 240 53 = (.aload_n 0, 1, 0, 0, []) := rfl
theorem zr_240_54 : z_co 240 54 = (.getfield 109, 3, 12, 52, [1242]) := rfl
theorem zr_240_57 : z_co 240 57 = (.iload 5, 2, 0, 0, []) := rfl
theorem zr_240_59 : z_co 240 59 = (.iaload, 1, 0, 0, []) := rfl
theorem zr_240_60 : z_co 240 60 = (.iload_n 2, 1, 0, 0, []) := rfl
theorem zr_240_61 : z_co 240 61 = (.iload 4, 2, 0, 0, []) := rfl
theorem zr_240_63 : z_co 240 63 = (.isub, 1, 0, 0, []) := rfl
theorem zr_240_64 : z_co 240 64 = (.if_icmp .ne 24, 3, 0, 0, []) := rfl
theorem zr_240_67 : z_co 240 67 = (.iload_n 3, 1, 0, 0, []) := rfl
theorem zr_240_68 : z_co 240 68 = (.iconst (-1), 1, 0, 0, []) := rfl
theorem zr_240_69 : z_co 240 69 = (.if_icmp .eq 25, 3, 0, 0, []) := rfl
theorem zr_240_72 : z_co 240 72 = (.aload_n 0, 1, 0, 0, []) := rfl
theorem zr_240_73 : z_co 240 73 = (.iload 5, 2, 0, 0, []) := rfl
theorem zr_240_75 : z_co 240 75 = (.iconst 0, 1, 0, 0, []) := rfl
theorem zr_240_76 : z_co 240 76 = (.invokevirtual 161, 3, 157, 0, [1420, 1422, 54]) := rfl
theorem zr_240_79 : z_co 240 79 = (.aload_n 0, 1, 0, 0, []) := rfl
theorem zr_240_80 : z_co 240 80 = (.iload_n 3, 1, 0, 0, []) := rfl
theorem zr_240_81 : z_co 240 81 = (.iconst 0, 1, 0, 0, []) := rfl
theorem zr_240_82 : z_co 240 82 = (.invokevirtual 161, 3, 157, 0, [1420, 1422, 54]) := rfl
theorem zr_240_85 : z_co 240 85 = (.if_icmp .le 9, 3, 0, 0, []) := rfl
theorem zr_240_88 : z_co 240 88 = (.iinc 5 1, 3, 0, 0, []) := rfl
theorem zr_240_91 : z_co 240 91 = (.goto (-38), 3, 0, 0, []) := rfl
theorem zr_240_94 : z_co 240 94 = (.iload 5, 2, 0, 0, []) := rfl
theorem zr_240_96 : z_co 240 96 = (.istore_n 3, 1, 0, 0, []) := rfl
theorem zr_240_97 : z_co 240 97 = (.iinc 4 1, 3, 0, 0, []) := rfl
theorem zr_240_100 : z_co 240 100 = (.goto (-58), 3, 0, 0, []) := rfl
theorem zr_240_103 : z_co 240 103 = (.iload_n 3, 1, 0, 0, []) := rfl
theorem zr_240_104 : z_co 240 104 = (.ireturn, 1, 0, 0, []) := rfl
theorem zr_241_0 : z_co 241 0 = (.aload_n 0, 1, 0, 0, []) := rfl
theorem zr_241_1 : z_co 241 1 = (.iconst 0, 1, 0, 0, []) := rfl
theorem zr_241_2 : z_co 241 2 = (.putfield 115, 3, 12, 0, [1190]) := rfl
theorem zr_241_5 : z_co 241 5 = (.iconst 0, 1, 0, 0, []) := rfl
theorem zr_241_6 : z_co 241 6 = (.iload_n 1, 1, 0, 0, []) := rfl
theorem zr_241_7 : z_co 241 7 = (.invokestatic 140, 3, 159, 0, [1378, 1379]) := rfl
theorem zr_241_10 : z_co 241 10 = (.ifCond .ne 9, 3, 0, 0, []) := rfl
theorem zr_241_13 : z_co 241 13 = (.aload_n 0, 1, 0, 0, []) := rfl
theorem zr_241_14 : z_co 241 14 = (.iconst (-1), 1, 0, 0, []) := rfl
theorem zr_241_15 : z_co 241 15 = (.invokevirtual 129, 3, 149, 0, [1366, 1368, 46]) := rfl
theorem zr_241_18 : z_co 241 18 = (.ireturn, 1, 0, 0, []) := rfl
theorem zr_241_19 : z_co 241 19 = (.aload_n 0, 1, 0, 0, []) := rfl
theorem zr_241_20 : z_co 241 20 = (.getfield 13, 3, 12, 3, [1193]) := rfl
theorem zr_241_23 : z_co 241 23 = (.iconst 5, 1, 0, 0, []) := rfl
theorem zr_241_24 : z_co 241 24 = (.iaload, 1, 0, 0, []) := rfl
theorem zr_241_25 : z_co 241 25 = (.istore_n 2, 1, 0, 0, []) := rfl
theorem zr_241_26 : z_co 241 26 = (.iload_n 2, 1, 0, 0, []) := rfl
theorem zr_241_27 : z_co 241 27 = (.bipush 8, 2, 0, 0, []) := rfl
theorem zr_241_29 : z_co 241 29 = (.if_icmp .ne 10, 3, 0, 0, []) := rfl
theorem zr_241_32 : z_co 241 32 = (.aload_n 0, 1, 0, 0, []) := rfl
theorem zr_241_33 : z_co 241 33 = (.bipush (-5), 2, 0, 0, []) := rfl
theorem zr_241_35 : z_co 241 35 = (.invokevirtual 129, 3, 149, 0, [1366, 1368, 46]) := rfl
theorem zr_241_38 : z_co 241 38 = (.ireturn, 1, 0, 0, []) := rfl
theorem zr_241_39 : z_co 241 39 = (.aload_n 0, 1, 0, 0, []) := rfl
theorem zr_241_40 : z_co 241 40 = (.getfield 13, 3, 12, 3, [1193]) := rfl
theorem zr_241_43 : z_co 241 43 = (.bipush 82, 2, 0, 0, []) := rfl
theorem zr_241_45 : z_co 241 45 = (.iload_n 2, 1, 0, 0, []) := rfl
theorem zr_241_46 : z_co 241 46 = (.iadd, 1, 0, 0, []) := rfl
theorem zr_241_47 : z_co 241 47 = (.iload_n 1, 1, 0, 0, []) := rfl
theorem zr_241_48 : z_co 241 48 = (.iastore, 1, 0, 0, []) := rfl
theorem zr_241_49 : z_co 241 49 = (.aload_n 0, 1, 0, 0, []) := rfl
theorem zr_241_50 : z_co 241 50 = (.getfield 13, 3, 12, 3, [1193]) := rfl
theorem zr_241_53 : z_co 241 53 = (.iconst 5, 1, 0, 0, []) := rfl
theorem zr_241_54 : z_co 241 54 = (.dup2, 1, 0, 0, []) := rfl
theorem zr_241_55 : z_co 241 55 = (.iaload, 1, 0, 0, []) := rfl
theorem zr_241_56 : z_co 241 56 = (.iconst 1, 1, 0, 0, []) := rfl
theorem zr_241_57 : z_co 241 57 = (.iadd, 1, 0, 0, []) := rfl
theorem zr_241_58 : z_co 241 58 = (.iastore, 1, 0, 0, []) := rfl
theorem zr_241_59 : z_co 241 59 = (.aload_n 0, 1, 0, 0, []) := rfl
theorem zr_241_60 : z_co 241 60 = (.iload_n 2, 1, 0, 0, []) := rfl
theorem zr_241_61 : z_co 241 61 = (.iconst 1, 1, 0, 0, []) := rfl
theorem zr_241_62 : z_co 241 62 = (.iadd, 1, 0, 0, []) := rfl
theorem zr_241_63 : z_co 241 63 = (.invokevirtual 129, 3, 149, 0, [1366, 1368, 46]) := rfl
theorem zr_241_66 : z_co 241 66 = (.ireturn, 1, 0, 0, []) := rfl
theorem zr_242_0 : z_co 242 0 = (.aload_n 0, 1, 0, 0, []) := rfl
theorem zr_242_1 : z_co 242 1 = (.iconst 0, 1, 0, 0, []) := rfl
theorem zr_242_2 : z_co 242 2 = (.putfield 115, 3, 12, 0, [1190]) := rfl
theorem zr_242_5 : z_co 242 5 = (.aload_n 0, 1, 0, 0, []) := rfl
theorem zr_242_6 : z_co 242 6 = (.getfield 13, 3, 12, 3, [1193]) := rfl
theorem zr_242_9 : z_co 242 9 = (.iconst 5, 1, 0, 0, []) := rfl
theorem zr_242_10 : z_co 242 10 = (.iaload, 1, 0, 0, []) := rfl
theorem zr_242_11 : z_co 242 11 = (.istore_n 1, 1, 0, 0, []) := rfl
theorem zr_242_12 : z_co 242 12 = (.aload_n 0, 1, 0, 0, []) := rfl
theorem zr_242_13 : z_co 242 13 = (.getfield 13, 3, 12, 3, [1193]) := rfl
theorem zr_242_16 : z_co 242 16 = (.iconst 5, 1, 0, 0, []) := rfl
theorem zr_242_17 : z_co 242 17 = (.iconst 0, 1, 0, 0, []) := rfl
theorem zr_242_18 : z_co 242 18 = (.iastore, 1, 0, 0, []) := rfl
theorem zr_242_19 : z_co 242 19 = (.iload_n 1, 1, 0, 0, []) := rfl
theorem zr_242_20 : z_co 242 20 = (.ireturn, 1, 0, 0, []) := rfl
