/-! the rows: printed by a program -/
theorem zr_208_0 : z_co 208 0 = (.aload_n 0, 1, 0, 0, []) := rfl
theorem zr_208_1 : z_co 208 1 = (.getfield 79, 3, 12, 34, [1224]) := rfl
theorem zr_208_4 : z_co 208 4 = (.iload_n 1, 1, 0, 0, []) := rfl
theorem zr_208_5 : z_co 208 5 = (.iaload, 1, 0, 0, []) := rfl
theorem zr_208_6 : z_co 208 6 = (.aload_n 0, 1, 0, 0, []) := rfl
theorem zr_208_7 : z_co 208 7 = (.getfield 341, 3, 12, 36, [1226]) := rfl
theorem zr_208_10 : z_co 208 10 = (.iconst (-1), 1, 0, 0, []) := rfl
theorem zr_208_11 : z_co 208 11 = (.ixor, 1, 0, 0, []) := rfl
theorem zr_208_12 : z_co 208 12 = (.iand, 1, 0, 0, []) := rfl
theorem zr_208_13 : z_co 208 13 = (.ireturn, 1, 0, 0, []) := rfl
theorem zr_209_0 : z_co 209 0 = (.aload_n 0, 1, 0, 0, []) := rfl
theorem zr_209_1 : z_co 209 1 = (.iload_n 1, 1, 0, 0, []) := rfl
theorem zr_209_2 : z_co 209 2 = (.iconst 0, 1, 0, 0, []) := rfl
theorem zr_209_3 : z_co 209 3 = (.iload_n 2, 1, 0, 0, []) := rfl
theorem zr_209_4 : z_co 209 4 = (.invokevirtual 366, 3, 207, 0, [1611, 1613, 82]) := rfl
theorem zr_209_7 : z_co 209 7 = (.aload_n 0, 1, 0, 0, []) := rfl
theorem zr_209_8 : z_co 209 8 = (.getfield 85, 3, 12, 37, [1227]) := rfl
theorem zr_209_11 : z_co 209 11 = (.aload_n 0, 1, 0, 0, []) := rfl
theorem zr_209_12 : z_co 209 12 = (.invokevirtual 132, 3, 154, 0, [1383, 1385, 47]) := rfl
theorem zr_209_15 : z_co 209 15 = (.iaload, 1, 0, 0, []) := rfl
theorem zr_209_16 : z_co 209 16 = (.iconst (-1), 1, 0, 0, []) := rfl
theorem zr_209_17 : z_co 209 17 = (.if_icmp .eq 7, 3, 0, 0, []) := rfl
theorem zr_209_20 : z_co 209 20 = (.iconst 1, 1, 0, 0, []) := rfl
theorem zr_209_21 : z_co 209 21 = (.goto 4, 3, 0, 0, []) := rfl
theorem zr_209_24 : z_co 209 24 = (.iconst 0, 1, 0, 0, []) := rfl
theorem zr_209_25 : z_co 209 25 = (.ireturn, 1, 0, 0, []) := rfl
theorem zr_210_0 : z_co 210 0 = (.aload_n 0, 1, 0, 0, []) := rfl
theorem zr_210_1 : z_co 210 1 = (.iconst 0, 1, 0, 0, []) := rfl
theorem zr_210_2 : z_co 210 2 = (.putfield 115, 3, 12, 0, [1190]) := rfl
theorem zr_210_5 : z_co 210 5 = (.aload_n 0, 1, 0, 0, []) := rfl
theorem zr_210_6 : z_co 210 6 = (.iload_n 1, 1, 0, 0, []) := rfl
theorem zr_210_7 : z_co 210 7 = (.invokevirtual 169, 3, 156, 0, [1458, 1460, 60]) := rfl
theorem zr_210_10 : z_co 210 10 = (.ifCond .ne 5, 3, 0, 0, []) := rfl
theorem zr_210_13 : z_co 210 13 = (.iconst (-1), 1, 0, 0, []) := rfl
theorem zr_210_14 : z_co 210 14 = (.ireturn, 1, 0, 0, []) := rfl
theorem zr_210_15 : z_co 210 15 = (.aload_n 0, 1, 0, 0, []) := rfl
theorem zr_210_16 : z_co 210 16 = (.invokevirtual 158, 3, 201, 0, [1412, 1414, 52]) := rfl
theorem zr_210_19 : z_co 210 19 = (.aload_n 0, 1, 0, 0, []) := rfl
theorem zr_210_20 : z_co 210 20 = (.iload_n 1, 1, 0, 0, []) := rfl
theorem zr_210_21 : z_co 210 21 = (.iconst 0, 1, 0, 0, []) := rfl
theorem zr_210_22 : z_co 210 22 = (.aload_n 0, 1, 0, 0, []) := rfl
theorem zr_210_23 : z_co 210 23 = (.iload_n 1, 1, 0, 0, []) := rfl
theorem zr_210_24 : z_co 210 24 = (.invokevirtual 369, 3, 208, 0, [1607, 1609, 81]) := rfl
theorem zr_210_27 : z_co 210 27 = (.invokevirtual 366, 3, 207, 0, [1611, 1613, 82]) := rfl
theorem zr_210_30 : z_co 210 30 = (.iconst 0, 1, 0, 0, []) := rfl
theorem zr_210_31 : z_co 210 31 = (.istore_n 2, 1, 0, 0, []) := rfl
theorem zr_210_32 : z_co 210 32 = (.iconst 0, 1, 0, 0, []) := rfl
theorem zr_210_33 : z_co 210 33 = (.istore_n 3, 1, 0, 0, []) := rfl
theorem zr_210_34 : z_co 210 34 = (.iload_n 3, 1, 0, 0, []) := rfl
theorem zr_210_35 : z_co 210 35 = (.aload_n 0, 1, 0, 0, []) := rfl
theorem zr_210_36 : z_co 210 36 = (.invokevirtual 132, 3, 154, 0, [1383, 1385, 47]) := rfl
theorem zr_210_39 : z_co 210 39 = (.if_icmp .ge 31, 3, 0, 0, []) := rfl
theorem zr_210_42 : z_co 210 42 = (.iload_n 2, 1, 0, 0, []) := rfl
theorem zr_210_43 : z_co 210 43 = (.aload_n 0, 1, 0, 0, []) := rfl
theorem zr_210_44 : z_co 210 44 = (.getfield 85, 3, 12, 37, [1227]) := rfl
theorem zr_210_47 : z_co 210 47 = (.iload_n 3, 1, 0, 0, []) := rfl
theorem zr_210_48 : z_co 210 48 = (.iconst 1, 1, 0, 0, []) := rfl
theorem zr_210_49 : z_co 210 49 = (.iadd, 1, 0, 0, []) := rfl
theorem zr_210_50 : z_co 210 50 = (.iaload, 1, 0, 0, []) := rfl
theorem zr_210_51 : z_co 210 51 = (.iconst (-1), 1, 0, 0, []) := rfl
theorem zr_210_52 : z_co 210 52 = (.if_icmp .eq 9, 3, 0, 0, []) := rfl
theorem zr_210_55 : z_co 210 55 = (.iconst 1, 1, 0, 0, []) := rfl
theorem zr_210_56 : z_co 210 56 = (.iload_n 3, 1, 0, 0, []) := rfl
theorem zr_210_57 : z_co 210 57 = (.ishl, 1, 0, 0, []) := rfl
theorem zr_210_58 : z_co 210 58 = (.goto 4, 3, 0, 0, []) := rfl
theorem zr_210_61 : z_co 210 61 = (.iconst 0, 1, 0, 0, []) := rfl
theorem zr_210_62 : z_co 210 62 = (.ior, 1, 0, 0, []) := rfl
theorem zr_210_63 : z_co 210 63 = (.istore_n 2, 1, 0, 0, []) := rfl
theorem zr_210_64 : z_co 210 64 = (.iinc 3 1, 3, 0, 0, []) := rfl
theorem zr_210_67 : z_co 210 67 = (.goto (-33), 3, 0, 0, []) := rfl
theorem zr_210_70 : z_co 210 70 = (.iload_n 2, 1, 0, 0, []) := rfl
theorem zr_210_71 : z_co 210 71 = (.ireturn, 1, 0, 0, []) := rfl
theorem zr_211_0 : z_co 211 0 = (.aload_n 0, 1, 0, 0, []) := rfl
theorem zr_211_1 : z_co 211 1 = (.iload_n 1, 1, 0, 0, []) := rfl
theorem zr_211_2 : z_co 211 2 = (.invokevirtual 369, 3, 208, 0, [1607, 1609, 81]) := rfl
theorem zr_211_5 : z_co 211 5 = (.istore_n 3, 1, 0, 0, []) := rfl
theorem zr_211_6 : z_co 211 6 = (.iconst 0, 1, 0, 0, []) := rfl
theorem zr_211_7 : z_co 211 7 = (.istore 4, 2, 0, 0, []) := rfl
theorem zr_211_9 : z_co 211 9 = (.iload 4, 2, 0, 0, []) := rfl
theorem zr_211_11 : z_co 211 11 = (.aload_n 0, 1, 0, 0, []) := rfl
theorem zr_211_12 : z_co 211 12 = (.invokevirtual 132, 3, 154, 0, [1383, 1385, 47]) := rfl
theorem zr_211_15 : z_co 211 15 = (.if_icmp .gt 53, 3, 0, 0, []) := rfl
theorem zr_211_18 : z_co 211 18 = (.aload_n 0, 1, 0, 0, []) := rfl
theorem zr_211_19 : z_co 211 19 = (.iload_n 1, 1, 0, 0, []) := rfl
theorem zr_211_20 : z_co 211 20 = (.iload 4, 2, 0, 0, []) := rfl
theorem zr_211_22 : z_co 211 22 = (.iload_n 3, 1, 0, 0, []) := rfl
theorem zr_211_23 : z_co 211 23 = (.invokevirtual 366, 3, 207, 0, [1611, 1613, 82]) := rfl
theorem zr_211_26 : z_co 211 26 = (.iconst 0, 1, 0, 0, []) := rfl
theorem zr_211_27 : z_co 211 27 = (.istore 5, 2, 0, 0, []) := rfl
theorem zr_211_29 : z_co 211 29 = (.iload 5, 2, 0, 0, []) := rfl
theorem zr_211_31 : z_co 211 31 = (.bipush 13, 2, 0, 0, []) := rfl
theorem zr_211_33 : z_co 211 33 = (.if_icmp .ge 29, 3, 0, 0, []) := rfl
theorem zr_211_36 : z_co 211 36 = (.aload_n 0, 1, 0, 0, []) := rfl
theorem zr_211_37 : z_co 211 37 = (.getfield 91, 3, 12, 39, [1229]) := rfl
theorem zr_211_40 : z_co 211 40 = (.bipush 13, 2, 0, 0, []) := rfl
theorem zr_211_42 : z_co 211 42 = (.iload 4, 2, 0, 0, []) := rfl
theorem zr_211_44 : z_co 211 44 = (.imul, 1, 0, 0, []) := rfl
theorem zr_211_45 : z_co 211 45 = (.iload 5, 2, 0, 0, []) := rfl
theorem zr_211_47 : z_co 211 47 = (.iadd, 1, 0, 0, []) := rfl
theorem zr_211_48 : z_co 211 48 = (.aload_n 0, 1, 0, 0, []) := rfl
theorem zr_211_49 : z_co 211 49 = (.getfield 85, 3, 12, 37, [1227]) := rfl
theorem zr_211_52 : z_co 211 52 = (.iload 5, 2, 0, 0, []) := rfl
theorem zr_211_54 : z_co 211 54 = (.iaload, 1, 0, 0, []) := rfl
theorem zr_211_55 : z_co 211 55 = (.iastore, 1, 0, 0, []) := rfl
theorem zr_211_56 : z_co 211 56 = (.iinc 5 1, 3, 0, 0, []) := rfl
theorem zr_211_59 : z_co 211 59 = (.goto (-30), 3, 0, 0, []) := rfl
theorem zr_211_62 : z_co 211 62 = (.iinc 4 1, 3, 0, 0, []) := rfl
theorem zr_211_65 : z_co 211 65 = (.goto (-56), 3, 0, 0, []) := rfl
theorem zr_211_68 : z_co 211 68 = (.aload_n 0, 1, 0, 0, []) := rfl
theorem zr_211_69 : z_co 211 69 = (.getfield 91, 3, 12, 39, [1229]) := rfl
theorem zr_211_72 : z_co 211 72 = (.iload_n 2, 1, 0, 0, []) := rfl
theorem zr_211_73 : z_co 211 73 = (.iconst 1, 1, 0, 0, []) := rfl
theorem zr_211_74 : z_co 211 74 = (.iadd, 1, 0, 0, []) := rfl
theorem zr_211_75 : z_co 211 75 = (.iaload, 1, 0, 0, []) := rfl
theorem zr_211_76 : z_co 211 76 = (.istore 4, 2, 0, 0, []) := rfl
theorem zr_211_78 : z_co 211 78 = (.iconst 0, 1, 0, 0, []) := rfl
theorem zr_211_79 : z_co 211 79 = (.istore 5, 2, 0, 0, []) := rfl
theorem zr_211_81 : z_co 211 81 = (.iconst 1, 1, 0, 0, []) := rfl
theorem zr_211_82 : z_co 211 82 = (.istore 6, 2, 0, 0, []) := rfl
theorem zr_211_84 : z_co 211 84 = (.iload 6, 2, 0, 0, []) := rfl
theorem zr_211_86 : z_co 211 86 = (.iload 4, 2, 0, 0, []) := rfl
theorem zr_211_88 : z_co 211 88 = (.if_icmp .gt 74, 3, 0, 0, []) := rfl
theorem zr_211_91 : z_co 211 91 = (.iconst 0, 1, 0, 0, []) := rfl
theorem zr_211_92 : z_co 211 92 = (.istore 7, 2, 0, 0, []) := rfl
theorem zr_211_94 : z_co 211 94 = (.aload_n 0, 1, 0, 0, []) := rfl
theorem zr_211_95 : z_co 211 95 = (.getfield 91, 3, 12, 39, [1229]) := rfl
theorem zr_211_98 : z_co 211 98 = (.bipush 13, 2, 0, 0, []) := rfl
theorem zr_211_100 : z_co 211 100 = (.iload 5, 2, 0, 0, []) := rfl
theorem zr_211_102 : z_co 211 102 = (.imul, 1, 0, 0, []) := rfl
theorem zr_211_103 : z_co 211 103 = (.iload 7, 2, 0, 0, []) := rfl
theorem zr_211_105 : z_co 211 105 = (.iadd, 1, 0, 0, []) := rfl
theorem zr_211_106 : z_co 211 106 = (.iaload, 1, 0, 0, []) := rfl
theorem zr_211_107 : z_co 211 107 = (.iconst 1, 1, 0, 0, []) := rfl
theorem zr_211_108 : z_co 211 108 = (.if_icmp .ne 25, 3, 0, 0, []) := rfl
theorem zr_211_111 : z_co 211 111 = (.aload_n 0, 1, 0, 0, []) := rfl
theorem zr_211_112 : z_co 211 112 = (.getfield 91, 3, 12, 39, [1229]) := rfl
theorem zr_211_115 : z_co 211 115 = (.bipush 13, 2, 0, 0, []) := rfl
theorem zr_211_117 : z_co 211 117 = (.iload 7, 2, 0, 0, []) := rfl
theorem zr_211_119 : z_co 211 119 = (.imul, 1, 0, 0, []) := rfl
theorem zr_211_120 : z_co 211 120 = (.iload_n 2, 1, 0, 0, []) := rfl
theorem zr_211_121 : z_co 211 121 = (.iadd, 1, 0, 0, []) := rfl
theorem zr_211_122 : z_co 211 122 = (.iconst 1, 1, 0, 0, []) := rfl
theorem zr_211_123 : z_co 211 123 = (.iadd, 1, 0, 0, []) := rfl
theorem zr_211_124 : z_co 211 124 = (.iaload, 1, 0, 0, []) := rfl
theorem zr_211_125 : z_co 211 125 = (.iload 4, 2, 0, 0, []) := rfl
theorem zr_211_127 : z_co 211 127 = (.iload 6, 2, 0, 0, []) := rfl
theorem zr_211_129 : z_co 211 129 = (.isub, 1, 0, 0, []) := rfl
theorem zr_211_130 : z_co 211 130 = (.if_icmp .eq 9, 3, 0, 0, []) := rfl
theorem zr_211_133 : z_co 211 133 = (.iinc 7 1, 3, 0, 0, []) := rfl
theorem zr_211_136 : z_co 211 136 = (.goto (-42), 3, 0, 0, []) := rfl
theorem zr_211_139 : z_co 211 139 = (.aload_n 0, 1, 0, 0, []) := rfl
theorem zr_211_140 : z_co 211 140 = (.getfield 88, 3, 12, 38, [1228]) := rfl
theorem zr_211_143 : z_co 211 143 = (.iload 6, 2, 0, 0, []) := rfl
theorem zr_211_145 : z_co 211 145 = (.iconst 1, 1, 0, 0, []) := rfl
theorem zr_211_146 : z_co 211 146 = (.isub, 1, 0, 0, []) := rfl
theorem zr_211_147 : z_co 211 147 = (.iload 7, 2, 0, 0, []) := rfl
theorem zr_211_149 : z_co 211 149 = (.iconst 1, 1, 0, 0, []) := rfl
theorem zr_211_150 : z_co 211 150 = (.isub, 1, 0, 0, []) := rfl
theorem zr_211_151 : z_co 211 151 = (.iastore, 1, 0, 0, []) := rfl
theorem zr_211_152 : z_co 211 152 = (.iload 7, 2, 0, 0, []) := rfl
theorem zr_211_154 : z_co 211 154 = (.istore 5, 2, 0, 0, []) := rfl
theorem zr_211_156 : z_co 211 156 = (.iinc 6 1, 3, 0, 0, []) := rfl
theorem zr_211_159 : z_co 211 159 = (.goto (-75), 3, 0, 0, []) := rfl
theorem zr_211_162 : z_co 211 162 = (.iload 4, 2, 0, 0, []) := rfl
theorem zr_211_164 : z_co 211 164 = (.ireturn, 1, 0, 0, []) := rfl
theorem zr_212_0 : z_co 212 0 = (.aload_n 0, 1, 0, 0, []) := rfl
theorem zr_212_1 : z_co 212 1 = (.iconst 0, 1, 0, 0, []) := rfl
theorem zr_212_2 : z_co 212 2 = (.putfield 115, 3, 12, 0, [1190]) := rfl
theorem zr_212_5 : z_co 212 5 = (.aload_n 0, 1, 0, 0, []) := rfl
theorem zr_212_6 : z_co 212 6 = (.iload_n 1, 1, 0, 0, []) := rfl
theorem zr_212_7 : z_co 212 7 = (.invokevirtual 169, 3, 156, 0, [1458, 1460, 60]) := rfl
theorem zr_212_10 : z_co 212 10 = (.ifCond .eq 11, 3, 0, 0, []) := rfl
theorem zr_212_13 : z_co 212 13 = (.aload_n 0, 1, 0, 0, []) := rfl
theorem zr_212_14 : z_co 212 14 = (.iload_n 2, 1, 0, 0, []) := rfl
theorem zr_212_15 : z_co 212 15 = (.invokevirtual 148, 3, 155, 0, [1395, 1397, 49]) := rfl
theorem zr_212_18 : z_co 212 18 = (.ifCond .ne 5, 3, 0, 0, []) := rfl
theorem zr_212_21 : z_co 212 21 = (.iconst (-1), 1, 0, 0, []) := rfl
theorem zr_212_22 : z_co 212 22 = (.ireturn, 1, 0, 0, []) := rfl
theorem zr_212_23 : z_co 212 23 = (.aload_n 0, 1, 0, 0, []) := rfl
theorem zr_212_24 : z_co 212 24 = (.invokevirtual 158, 3, 201, 0, [1412, 1414, 52]) := rfl
theorem zr_212_27 : z_co 212 27 = (.aload_n 0, 1, 0, 0, []) := rfl
theorem zr_212_28 : z_co 212 28 = (.iload_n 1, 1, 0, 0, []) := rfl
theorem zr_212_29 : z_co 212 29 = (.iload_n 2, 1, 0, 0, []) := rfl
theorem zr_212_30 : z_co 212 30 = (.invokevirtual 372, 3, 211, 0, [1630, 1632, 85]) := rfl
theorem zr_212_33 : z_co 212 33 = (.istore 4, 2, 0, 0, []) := rfl
theorem zr_212_35 : z_co 212 35 = (.iload_n 3, 1, 0, 0, []) := rfl
theorem zr_212_36 : z_co 212 36 = (.iconst (-1), 1, 0, 0, []) := rfl
theorem zr_212_37 : z_co 212 37 = (.if_icmp .ne 8, 3, 0, 0, []) := rfl
theorem zr_212_40 : z_co 212 40 = (.iload 4, 2, 0, 0, []) := rfl
theorem zr_212_42 : z_co 212 42 = (.goto 27, 3, 0, 0, []) := rfl
theorem zr_212_45 : z_co 212 45 = (.iload_n 3, 1, 0, 0, []) := rfl
theorem zr_212_46 : z_co 212 46 = (.i2l, 1, 0, 0, []) := rfl
theorem zr_212_47 : z_co 212 47 = (.lconst 0, 1, 0, 0, []) := rfl
theorem zr_212_48 : z_co 212 48 = (.iload 4, 2, 0, 0, []) := rfl
theorem zr_212_50 : z_co 212 50 = (.i2l, 1, 0, 0, []) := rfl
theorem zr_212_51 : z_co 212 51 = (.lconst 1, 1, 0, 0, []) := rfl
theorem zr_212_52 : z_co 212 52 = (.lsub, 1, 0, 0, []) := rfl
theorem zr_212_53 : z_co 212 53 = (.invokestatic 125, 3, 145, 0, [1363, 1364]) := rfl
theorem zr_212_56 : z_co 212 56 = (.ifCond .eq 12, 3, 0, 0, []) := rfl
theorem zr_212_59 : z_co 212 59 = (.aload_n 0, 1, 0, 0, []) := rfl
theorem zr_212_60 : z_co 212 60 = (.getfield 88, 3, 12, 38, [1228]) := rfl
theorem zr_212_63 : z_co 212 63 = (.iload_n 3, 1, 0, 0, []) := rfl
theorem zr_212_64 : z_co 212 64 = (.iaload, 1, 0, 0, []) := rfl
theorem zr_212_65 : z_co 212 65 = (.goto 4, 3, 0, 0, []) := rfl
theorem zr_212_68 : z_co 212 68 = (.iconst (-1), 1, 0, 0, []) := rfl
theorem zr_212_69 : z_co 212 69 = (.ireturn, 1, 0, 0, []) := rfl
theorem zr_213_0 : z_co 213 0 = (.aload_n 0, 1, 0, 0, []) := rfl
theorem zr_213_1 : z_co 213 1 = (.iconst 0, 1, 0, 0, []) := rfl
theorem zr_213_2 : z_co 213 2 = (.putfield 375, 3, 12, 40, [1230]) := rfl
theorem zr_213_5 : z_co 213 5 = (.aload_n 0, 1, 0, 0, []) := rfl
theorem zr_213_6 : z_co 213 6 = (.iconst (-1), 1, 0, 0, []) := rfl
theorem zr_213_7 : z_co 213 7 = (.putfield 378, 3, 12, 41, [1231]) := rfl
theorem zr_213_10 : z_co 213 10 = (.aload_n 0, 1, 0, 0, []) := rfl
theorem zr_213_11 : z_co 213 11 = (.iconst 0, 1, 0, 0, []) := rfl
theorem zr_213_12 : z_co 213 12 = (.putfield 381, 3, 12, 42, [1232]) := rfl
theorem zr_213_15 : z_co 213 15 = (.iconst 0, 1, 0, 0, []) := rfl
theorem zr_213_16 : z_co 213 16 = (.istore 5, 2, 0, 0, []) := rfl
theorem zr_213_18 : z_co 213 18 = (.iload 5, 2, 0, 0, []) := rfl
theorem zr_213_20 : z_co 213 20 = (.iload_n 2, 1, 0, 0, []) := rfl
theorem zr_213_21 : z_co 213 21 = (.if_icmp .gt 163, 3, 0, 0, []) := rfl
theorem zr_213_24 : z_co 213 24 = (.iload 5, 2, 0, 0, []) := rfl
theorem zr_213_26 : z_co 213 26 = (.iload_n 2, 1, 0, 0, []) := rfl
theorem zr_213_27 : z_co 213 27 = (.iconst (-1), 1, 0, 0, []) := rfl
theorem zr_213_28 : z_co 213 28 = (.ixor, 1, 0, 0, []) := rfl
theorem zr_213_29 : z_co 213 29 = (.iand, 1, 0, 0, []) := rfl
theorem zr_213_30 : z_co 213 30 = (.ifCond .ne 148, 3, 0, 0, []) := rfl
theorem zr_213_33 : z_co 213 33 = (.iload_n 3, 1, 0, 0, []) := rfl
theorem zr_213_34 : z_co 213 34 = (.iconst 2, 1, 0, 0, []) := rfl
theorem zr_213_35 : z_co 213 35 = (.if_icmp .ne 22, 3, 0, 0, []) := rfl
theorem zr_213_38 : z_co 213 38 = (.aload_n 0, 1, 0, 0, []) := rfl
theorem zr_213_39 : z_co 213 39 = (.getfield 79, 3, 12, 34, [1224]) := rfl
theorem zr_213_42 : z_co 213 42 = (.iload_n 1, 1, 0, 0, []) := rfl
theorem zr_213_43 : z_co 213 43 = (.iaload, 1, 0, 0, []) := rfl
theorem zr_213_44 : z_co 213 44 = (.aload_n 0, 1, 0, 0, []) := rfl
theorem zr_213_45 : z_co 213 45 = (.getfield 341, 3, 12, 36, [1226]) := rfl
theorem zr_213_48 : z_co 213 48 = (.iconst (-1), 1, 0, 0, []) := rfl
theorem zr_213_49 : z_co 213 49 = (.ixor, 1, 0, 0, []) := rfl
theorem zr_213_50 : z_co 213 50 = (.iload 5, 2, 0, 0, []) := rfl
theorem zr_213_52 : z_co 213 52 = (.ior, 1, 0, 0, []) := rfl
theorem zr_213_53 : z_co 213 53 = (.iand, 1, 0, 0, []) := rfl
theorem zr_213_54 : z_co 213 54 = (.goto 13, 3, 0, 0, []) := rfl
theorem zr_213_57 : z_co 213 57 = (.aload_n 0, 1, 0, 0, []) := rfl
theorem zr_213_58 : z_co 213 58 = (.iload_n 1, 1, 0, 0, []) := rfl
theorem zr_213_59 : z_co 213 59 = (.invokevirtual 369, 3, 208, 0, [1607, 1609, 81]) := rfl
theorem zr_213_62 : z_co 213 62 = (.iload 5, 2, 0, 0, []) := rfl
theorem zr_213_64 : z_co 213 64 = (.iconst (-1), 1, 0, 0, []) := rfl
theorem zr_213_65 : z_co 213 65 = (.ixor, 1, 0, 0, []) := rfl
theorem zr_213_66 : z_co 213 66 = (.iand, 1, 0, 0, []) := rfl
theorem zr_213_67 : z_co 213 67 = (.istore 6, 2, 0, 0, []) := rfl
theorem zr_213_69 : z_co 213 69 = (.aload_n 0, 1, 0, 0, []) := rfl
theorem zr_213_70 : z_co 213 70 = (.iload_n 1, 1, 0, 0, []) := rfl
theorem zr_213_71 : z_co 213 71 = (.iload 6, 2, 0, 0, []) := rfl
theorem zr_213_73 : z_co 213 73 = (.invokevirtual 384, 3, 209, 0, [1647, 1649, 88]) := rfl
theorem zr_213_76 : z_co 213 76 = (.iload_n 3, 1, 0, 0, []) := rfl
theorem zr_213_77 : z_co 213 77 = (.iconst 1, 1, 0, 0, []) := rfl
theorem zr_213_78 : z_co 213 78 = (.if_icmp .eq 7, 3, 0, 0, []) := rfl
theorem zr_213_81 : z_co 213 81 = (.iconst 1, 1, 0, 0, []) := rfl
theorem zr_213_82 : z_co 213 82 = (.goto 4, 3, 0, 0, []) := rfl
theorem zr_213_85 : z_co 213 85 = (.iconst 0, 1, 0, 0, []) := rfl
theorem zr_213_86 : z_co 213 86 = (.if_icmp .ne 92, 3, 0, 0, []) := rfl
theorem zr_213_89 : z_co 213 89 = (.aload_n 0, 1, 0, 0, []) := rfl
theorem zr_213_90 : z_co 213 90 = (.getfield 378, 3, 12, 41, [1231]) := rfl
theorem zr_213_93 : z_co 213 93 = (.iconst (-1), 1, 0, 0, []) := rfl
theorem zr_213_94 : z_co 213 94 = (.if_icmp .ne 7, 3, 0, 0, []) := rfl
theorem zr_213_97 : z_co 213 97 = (.iconst 1, 1, 0, 0, []) := rfl
theorem zr_213_98 : z_co 213 98 = (.goto 19, 3, 0, 0, []) := rfl
theorem zr_213_101 : z_co 213 101 = (.iload 4, 2, 0, 0, []) := rfl
theorem zr_213_103 : z_co 213 103 = (.iload 5, 2, 0, 0, []) := rfl
theorem zr_213_105 : z_co 213 105 = (.invokestatic 387, 3, 147, 0, [1651, 1652]) := rfl
theorem zr_213_108 : z_co 213 108 = (.aload_n 0, 1, 0, 0, []) := rfl
theorem zr_213_109 : z_co 213 109 = (.getfield 378, 3, 12, 41, [1231]) := rfl
theorem zr_213_112 : z_co 213 112 = (.invokestatic 387, 3, 147, 0, [1651, 1652]) := rfl
theorem zr_213_115 : z_co 213 115 = (.isub, 1, 0, 0, []) := rfl
theorem zr_213_116 : z_co 213 116 = (.imul, 1, 0, 0, []) := rfl
theorem zr_213_117 : z_co 213 117 = (.istore 7, 2, 0, 0, []) := rfl
theorem zr_213_119 : z_co 213 119 = (.aload_n 0, 1, 0, 0, []) := rfl
theorem zr_213_120 : z_co 213 120 = (.dup, 1, 0, 0, []) := rfl
theorem zr_213_121 : z_co 213 121 = (.getfield 375, 3, 12, 40, [1230]) := rfl
theorem zr_213_124 : z_co 213 124 = (.iconst 1, 1, 0, 0, []) := rfl
theorem zr_213_125 : z_co 213 125 = (.iadd, 1, 0, 0, []) := rfl
theorem zr_213_126 : z_co 213 126 = (.putfield 375, 3, 12, 40, [1230]) := rfl
theorem zr_213_129 : z_co 213 129 = (.aload_n 0, 1, 0, 0, []) := rfl
theorem zr_213_130 : z_co 213 130 = (.iload 7, 2, 0, 0, []) := rfl
theorem zr_213_132 : z_co 213 132 = (.ifCond .le 7, 3, 0, 0, []) := rfl
theorem zr_213_135 : z_co 213 135 = (.iconst 1, 1, 0, 0, []) := rfl
theorem zr_213_136 : z_co 213 136 = (.goto 21, 3, 0, 0, []) := rfl
theorem zr_213_139 : z_co 213 139 = (.iload 7, 2, 0, 0, []) := rfl
theorem zr_213_141 : z_co 213 141 = (.ifCond .ne 12, 3, 0, 0, []) := rfl
theorem zr_213_144 : z_co 213 144 = (.aload_n 0, 1, 0, 0, []) := rfl
theorem zr_213_145 : z_co 213 145 = (.getfield 381, 3, 12, 42, [1232]) := rfl
theorem zr_213_148 : z_co 213 148 = (.iconst 1, 1, 0, 0, []) := rfl
theorem zr_213_149 : z_co 213 149 = (.iadd, 1, 0, 0, []) := rfl
theorem zr_213_150 : z_co 213 150 = (.goto 7, 3, 0, 0, []) := rfl
theorem zr_213_153 : z_co 213 153 = (.aload_n 0, 1, 0, 0, []) := rfl
theorem zr_213_154 : z_co 213 154 = (.getfield 381, 3, 12, 42, [1232]) := rfl
theorem zr_213_157 : z_co 213 157 = (.putfield 381, 3, 12, 42, [1232]) := rfl
theorem zr_213_160 : z_co 213 160 = (.aload_n 0, 1, 0, 0, []) := rfl
theorem zr_213_161 : z_co 213 161 = (.iload 7, 2, 0, 0, []) := rfl
theorem zr_213_163 : z_co 213 163 = (.ifCond .le 8, 3, 0, 0, []) := rfl
theorem zr_213_166 : z_co 213 166 = (.iload 5, 2, 0, 0, []) := rfl
theorem zr_213_168 : z_co 213 168 = (.goto 7, 3, 0, 0, []) := rfl
theorem zr_213_171 : z_co 213 171 = (.aload_n 0, 1, 0, 0, []) := rfl
theorem zr_213_172 : z_co 213 172 = (.getfield 378, 3, 12, 41, [1231]) := rfl
theorem zr_213_175 : z_co 213 175 = (.putfield 378, 3, 12, 41, [1231]) := rfl
theorem zr_213_178 : z_co 213 178 = (.iinc 5 1, 3, 0, 0, []) := rfl
theorem zr_213_181 : z_co 213 181 = (.goto (-163), 3, 0, 0, []) := rfl
theorem zr_213_184 : z_co 213 184 = (.return_, 1, 0, 0, []) := rfl
theorem zr_214_0 : z_co 214 0 = (.iconst 1, 1, 0, 0, []) := rfl
theorem zr_214_1 : z_co 214 1 = (.aload_n 0, 1, 0, 0, []) := rfl
theorem zr_214_2 : z_co 214 2 = (.invokevirtual 132, 3, 154, 0, [1383, 1385, 47]) := rfl
theorem zr_214_5 : z_co 214 5 = (.ishl, 1, 0, 0, []) := rfl
theorem zr_214_6 : z_co 214 6 = (.iconst 1, 1, 0, 0, []) := rfl
theorem zr_214_7 : z_co 214 7 = (.isub, 1, 0, 0, []) := rfl
theorem zr_214_8 : z_co 214 8 = (.aload_n 0, 1, 0, 0, []) := rfl
theorem zr_214_9 : z_co 214 9 = (.getfield 341, 3, 12, 36, [1226]) := rfl
theorem zr_214_12 : z_co 214 12 = (.iconst (-1), 1, 0, 0, []) := rfl
theorem zr_214_13 : z_co 214 13 = (.ixor, 1, 0, 0, []) := rfl
theorem zr_214_14 : z_co 214 14 = (.iand, 1, 0, 0, []) := rfl
theorem zr_214_15 : z_co 214 15 = (.iconst 1, 1, 0, 0, []) := rfl
theorem zr_214_16 : z_co 214 16 = (.aload_n 0, 1, 0, 0, []) := rfl
theorem zr_214_17 : z_co 214 17 = (.invokevirtual 132, 3, 154, 0, [1383, 1385, 47]) := rfl
theorem zr_214_20 : z_co 214 20 = (.iconst 1, 1, 0, 0, []) := rfl
theorem zr_214_21 : z_co 214 21 = (.isub, 1, 0, 0, []) := rfl
theorem zr_214_22 : z_co 214 22 = (.ishl, 1, 0, 0, []) := rfl
theorem zr_214_23 : z_co 214 23 = (.iconst (-1), 1, 0, 0, []) := rfl
theorem zr_214_24 : z_co 214 24 = (.ixor, 1, 0, 0, []) := rfl
theorem zr_214_25 : z_co 214 25 = (.iand, 1, 0, 0, []) := rfl
theorem zr_214_26 : z_co 214 26 = (.ireturn, 1, 0, 0, []) := rfl
theorem zr_215_0 : z_co 215 0 = (.iload_n 1, 1, 0, 0, []) := rfl
theorem zr_215_1 : z_co 215 1 = (.iconst 3, 1, 0, 0, []) := rfl
theorem zr_215_2 : z_co 215 2 = (.if_icmp .ne 10, 3, 0, 0, []) := rfl
theorem zr_215_5 : z_co 215 5 = (.aload_n 0, 1, 0, 0, []) := rfl
theorem zr_215_6 : z_co 215 6 = (.getfield 375, 3, 12, 40, [1230]) := rfl
theorem zr_215_9 : z_co 215 9 = (.goto 45, 3, 0, 0, []) := rfl
theorem zr_215_12 : z_co 215 12 = (.iload_n 1, 1, 0, 0, []) := rfl
theorem zr_215_13 : z_co 215 13 = (.iconst 2, 1, 0, 0, []) := rfl
theorem zr_215_14 : z_co 215 14 = (.if_icmp .ne 10, 3, 0, 0, []) := rfl
theorem zr_215_17 : z_co 215 17 = (.aload_n 0, 1, 0, 0, []) := rfl
theorem zr_215_18 : z_co 215 18 = (.getfield 381, 3, 12, 42, [1232]) := rfl
theorem zr_215_21 : z_co 215 21 = (.goto 33, 3, 0, 0, []) := rfl
theorem zr_215_24 : z_co 215 24 = (.aload_n 0, 1, 0, 0, []) := rfl
theorem zr_215_25 : z_co 215 25 = (.getfield 378, 3, 12, 41, [1231]) := rfl
theorem zr_215_28 : z_co 215 28 = (.iconst (-1), 1, 0, 0, []) := rfl
theorem zr_215_29 : z_co 215 29 = (.if_icmp .ne 7, 3, 0, 0, []) := rfl
theorem zr_215_32 : z_co 215 32 = (.iconst (-1), 1, 0, 0, []) := rfl
theorem zr_215_33 : z_co 215 33 = (.goto 21, 3, 0, 0, []) := rfl
theorem zr_215_36 : z_co 215 36 = (.iload_n 1, 1, 0, 0, []) := rfl
theorem zr_215_37 : z_co 215 37 = (.ifCond .ne 13, 3, 0, 0, []) := rfl
theorem zr_215_40 : z_co 215 40 = (.aload_n 0, 1, 0, 0, []) := rfl
theorem zr_215_41 : z_co 215 41 = (.getfield 378, 3, 12, 41, [1231]) := rfl
theorem zr_215_44 : z_co 215 44 = (.invokestatic 387, 3, 147, 0, [1651, 1652]) := rfl
theorem zr_215_47 : z_co 215 47 = (.goto 7, 3, 0, 0, []) := rfl
theorem zr_215_50 : z_co 215 50 = (.aload_n 0, 1, 0, 0, []) := rfl
theorem zr_215_51 : z_co 215 51 = (.getfield 378, 3, 12, 41, [1231]) := rfl
theorem zr_215_54 : z_co 215 54 = (.ireturn, 1, 0, 0, []) := rfl
theorem zr_216_0 : z_co 216 0 = (.aload_n 0, 1, 0, 0, []) := rfl
theorem zr_216_1 : z_co 216 1 = (.iconst 0, 1, 0, 0, []) := rfl
theorem zr_216_2 : z_co 216 2 = (.putfield 115, 3, 12, 0, [1190]) := rfl
theorem zr_216_5 : z_co 216 5 = (.aload_n 0, 1, 0, 0, []) := rfl
theorem zr_216_6 : z_co 216 6 = (.iload_n 1, 1, 0, 0, []) := rfl
theorem zr_216_7 : z_co 216 7 = (.invokevirtual 169, 3, 156, 0, [1458, 1460, 60]) := rfl
theorem zr_216_10 : z_co 216 10 = (.ifCond .eq 22, 3, 0, 0, []) := rfl
theorem zr_216_13 : z_co 216 13 = (.aload_n 0, 1, 0, 0, []) := rfl
theorem zr_216_14 : z_co 216 14 = (.invokevirtual 132, 3, 154, 0, [1383, 1385, 47]) := rfl
theorem zr_216_17 : z_co 216 17 = (.ifCond .eq 15, 3, 0, 0, []) := rfl
theorem zr_216_20 : z_co 216 20 = (.iload_n 2, 1, 0, 0, []) := rfl
theorem zr_216_21 : z_co 216 21 = (.i2l, 1, 0, 0, []) := rfl
theorem zr_216_22 : z_co 216 22 = (.lconst 0, 1, 0, 0, []) := rfl
theorem zr_216_23 : z_co 216 23 = (.ldc2_w 390, 3, 3, 0, [1638]) := rfl
theorem zr_216_26 : z_co 216 26 = (.invokestatic 125, 3, 145, 0, [1363, 1364]) := rfl
theorem zr_216_29 : z_co 216 29 = (.ifCond .ne 5, 3, 0, 0, []) := rfl
theorem zr_216_32 : z_co 216 32 = (.iconst (-1), 1, 0, 0, []) := rfl
theorem zr_216_33 : z_co 216 33 = (.ireturn, 1, 0, 0, []) := rfl
theorem zr_216_34 : z_co 216 34 = (.aload_n 0, 1, 0, 0, []) := rfl
theorem zr_216_35 : z_co 216 35 = (.invokevirtual 158, 3, 201, 0, [1412, 1414, 52]) := rfl
theorem zr_216_38 : z_co 216 38 = (.aload_n 0, 1, 0, 0, []) := rfl
theorem zr_216_39 : z_co 216 39 = (.iload_n 1, 1, 0, 0, []) := rfl
theorem zr_216_40 : z_co 216 40 = (.aload_n 0, 1, 0, 0, []) := rfl
theorem zr_216_41 : z_co 216 41 = (.invokevirtual 392, 3, 214, 0, [1639, 1641, 86]) := rfl
theorem zr_216_44 : z_co 216 44 = (.iconst 0, 1, 0, 0, []) := rfl
theorem zr_216_45 : z_co 216 45 = (.iconst 1, 1, 0, 0, []) := rfl
theorem zr_216_46 : z_co 216 46 = (.invokevirtual 395, 3, 213, 0, [1643, 1645, 87]) := rfl
theorem zr_216_49 : z_co 216 49 = (.aload_n 0, 1, 0, 0, []) := rfl
theorem zr_216_50 : z_co 216 50 = (.iload_n 2, 1, 0, 0, []) := rfl
theorem zr_216_51 : z_co 216 51 = (.invokevirtual 399, 3, 215, 0, [1654, 1656, 89]) := rfl
theorem zr_216_54 : z_co 216 54 = (.ireturn, 1, 0, 0, []) := rfl
theorem zr_217_0 : z_co 217 0 = (.aload_n 0, 1, 0, 0, []) := rfl
theorem zr_217_1 : z_co 217 1 = (.iconst 0, 1, 0, 0, []) := rfl
theorem zr_217_2 : z_co 217 2 = (.putfield 115, 3, 12, 0, [1190]) := rfl
theorem zr_217_5 : z_co 217 5 = (.aload_n 0, 1, 0, 0, []) := rfl
theorem zr_217_6 : z_co 217 6 = (.iload_n 1, 1, 0, 0, []) := rfl
theorem zr_217_7 : z_co 217 7 = (.invokevirtual 169, 3, 156, 0, [1458, 1460, 60]) := rfl
theorem zr_217_10 : z_co 217 10 = (.ifCond .eq 22, 3, 0, 0, []) := rfl
theorem zr_217_13 : z_co 217 13 = (.aload_n 0, 1, 0, 0, []) := rfl
theorem zr_217_14 : z_co 217 14 = (.invokevirtual 132, 3, 154, 0, [1383, 1385, 47]) := rfl
theorem zr_217_17 : z_co 217 17 = (.ifCond .eq 15, 3, 0, 0, []) := rfl
theorem zr_217_20 : z_co 217 20 = (.iload_n 2, 1, 0, 0, []) := rfl
theorem zr_217_21 : z_co 217 21 = (.i2l, 1, 0, 0, []) := rfl
theorem zr_217_22 : z_co 217 22 = (.lconst 0, 1, 0, 0, []) := rfl
theorem zr_217_23 : z_co 217 23 = (.ldc2_w 402, 3, 2, 0, [1662]) := rfl
theorem zr_217_26 : z_co 217 26 = (.invokestatic 125, 3, 145, 0, [1363, 1364]) := rfl
theorem zr_217_29 : z_co 217 29 = (.ifCond .ne 5, 3, 0, 0, []) := rfl
theorem zr_217_32 : z_co 217 32 = (.iconst (-1), 1, 0, 0, []) := rfl
theorem zr_217_33 : z_co 217 33 = (.ireturn, 1, 0, 0, []) := rfl
theorem zr_217_34 : z_co 217 34 = (.aload_n 0, 1, 0, 0, []) := rfl
theorem zr_217_35 : z_co 217 35 = (.invokevirtual 158, 3, 201, 0, [1412, 1414, 52]) := rfl
theorem zr_217_38 : z_co 217 38 = (.aload_n 0, 1, 0, 0, []) := rfl
theorem zr_217_39 : z_co 217 39 = (.iload_n 1, 1, 0, 0, []) := rfl
theorem zr_217_40 : z_co 217 40 = (.aload_n 0, 1, 0, 0, []) := rfl
theorem zr_217_41 : z_co 217 41 = (.invokevirtual 392, 3, 214, 0, [1639, 1641, 86]) := rfl
theorem zr_217_44 : z_co 217 44 = (.iconst 1, 1, 0, 0, []) := rfl
theorem zr_217_45 : z_co 217 45 = (.iconst (-1), 1, 0, 0, []) := rfl
theorem zr_217_46 : z_co 217 46 = (.invokevirtual 395, 3, 213, 0, [1643, 1645, 87]) := rfl
theorem zr_217_49 : z_co 217 49 = (.aload_n 0, 1, 0, 0, []) := rfl
theorem zr_217_50 : z_co 217 50 = (.iload_n 2, 1, 0, 0, []) := rfl
theorem zr_217_51 : z_co 217 51 = (.invokevirtual 399, 3, 215, 0, [1654, 1656, 89]) := rfl
theorem zr_217_54 : z_co 217 54 = (.ireturn, 1, 0, 0, []) := rfl
theorem zr_218_0 : z_co 218 0 = (.aload_n 0, 1, 0, 0, []) := rfl
theorem zr_218_1 : z_co 218 1 = (.iconst 0, 1, 0, 0, []) := rfl
theorem zr_218_2 : z_co 218 2 = (.putfield 115, 3, 12, 0, [1190]) := rfl
theorem zr_218_5 : z_co 218 5 = (.aload_n 0, 1, 0, 0, []) := rfl
theorem zr_218_6 : z_co 218 6 = (.iload_n 1, 1, 0, 0, []) := rfl
theorem zr_218_7 : z_co 218 7 = (.invokevirtual 169, 3, 156, 0, [1458, 1460, 60]) := rfl
theorem zr_218_10 : z_co 218 10 = (.ifCond .eq 22, 3, 0, 0, []) := rfl
theorem zr_218_13 : z_co 218 13 = (.aload_n 0, 1, 0, 0, []) := rfl
theorem zr_218_14 : z_co 218 14 = (.invokevirtual 132, 3, 154, 0, [1383, 1385, 47]) := rfl
theorem zr_218_17 : z_co 218 17 = (.ifCond .eq 15, 3, 0, 0, []) := rfl
theorem zr_218_20 : z_co 218 20 = (.iload_n 2, 1, 0, 0, []) := rfl
theorem zr_218_21 : z_co 218 21 = (.i2l, 1, 0, 0, []) := rfl
theorem zr_218_22 : z_co 218 22 = (.lconst 0, 1, 0, 0, []) := rfl
theorem zr_218_23 : z_co 218 23 = (.ldc2_w 402, 3, 2, 0, [1662]) := rfl
theorem zr_218_26 : z_co 218 26 = (.invokestatic 125, 3, 145, 0, [1363, 1364]) := rfl
theorem zr_218_29 : z_co 218 29 = (.ifCond .ne 5, 3, 0, 0, []) := rfl
theorem zr_218_32 : z_co 218 32 = (.iconst (-1), 1, 0, 0, []) := rfl
theorem zr_218_33 : z_co 218 33 = (.ireturn, 1, 0, 0, []) := rfl
theorem zr_218_34 : z_co 218 34 = (.aload_n 0, 1, 0, 0, []) := rfl
theorem zr_218_35 : z_co 218 35 = (.invokevirtual 158, 3, 201, 0, [1412, 1414, 52]) := rfl
theorem zr_218_38 : z_co 218 38 = (.aload_n 0, 1, 0, 0, []) := rfl
theorem zr_218_39 : z_co 218 39 = (.iload_n 1, 1, 0, 0, []) := rfl
theorem zr_218_40 : z_co 218 40 = (.aload_n 0, 1, 0, 0, []) := rfl
theorem zr_218_41 : z_co 218 41 = (.getfield 341, 3, 12, 36, [1226]) := rfl
theorem zr_218_44 : z_co 218 44 = (.iconst 2, 1, 0, 0, []) := rfl
theorem zr_218_45 : z_co 218 45 = (.iconst (-1), 1, 0, 0, []) := rfl
theorem zr_218_46 : z_co 218 46 = (.invokevirtual 395, 3, 213, 0, [1643, 1645, 87]) := rfl
theorem zr_218_49 : z_co 218 49 = (.aload_n 0, 1, 0, 0, []) := rfl
theorem zr_218_50 : z_co 218 50 = (.iload_n 2, 1, 0, 0, []) := rfl
theorem zr_218_51 : z_co 218 51 = (.invokevirtual 399, 3, 215, 0, [1654, 1656, 89]) := rfl
theorem zr_218_54 : z_co 218 54 = (.ireturn, 1, 0, 0, []) := rfl
theorem zr_219_0 : z_co 219 0 = (.aload_n 0, 1, 0, 0, []) := rfl
theorem zr_219_1 : z_co 219 1 = (.iconst 0, 1, 0, 0, []) := rfl
theorem zr_219_2 : z_co 219 2 = (.putfield 115, 3, 12, 0, [1190]) := rfl
theorem zr_219_5 : z_co 219 5 = (.aload_n 0, 1, 0, 0, []) := rfl
theorem zr_219_6 : z_co 219 6 = (.iload_n 1, 1, 0, 0, []) := rfl
theorem zr_219_7 : z_co 219 7 = (.invokevirtual 169, 3, 156, 0, [1458, 1460, 60]) := rfl
theorem zr_219_10 : z_co 219 10 = (.ifCond .eq 11, 3, 0, 0, []) := rfl
theorem zr_219_13 : z_co 219 13 = (.aload_n 0, 1, 0, 0, []) := rfl
theorem zr_219_14 : z_co 219 14 = (.iload_n 2, 1, 0, 0, []) := rfl
theorem zr_219_15 : z_co 219 15 = (.invokevirtual 148, 3, 155, 0, [1395, 1397, 49]) := rfl
theorem zr_219_18 : z_co 219 18 = (.ifCond .ne 10, 3, 0, 0, []) := rfl
theorem zr_219_21 : z_co 219 21 = (.aload_n 0, 1, 0, 0, []) := rfl
theorem zr_219_22 : z_co 219 22 = (.bipush (-2), 2, 0, 0, []) := rfl
theorem zr_219_24 : z_co 219 24 = (.invokevirtual 129, 3, 149, 0, [1366, 1368, 46]) := rfl
theorem zr_219_27 : z_co 219 27 = (.ireturn, 1, 0, 0, []) := rfl
theorem zr_219_28 : z_co 219 28 = (.aload_n 0, 1, 0, 0, []) := rfl
theorem zr_219_29 : z_co 219 29 = (.getfield 13, 3, 12, 3, [1193]) := rfl
theorem zr_219_32 : z_co 219 32 = (.iconst 4, 1, 0, 0, []) := rfl
theorem zr_219_33 : z_co 219 33 = (.iaload, 1, 0, 0, []) := rfl
theorem zr_219_34 : z_co 219 34 = (.istore_n 3, 1, 0, 0, []) := rfl
theorem zr_219_35 : z_co 219 35 = (.iload_n 3, 1, 0, 0, []) := rfl
theorem zr_219_36 : z_co 219 36 = (.bipush 7, 2, 0, 0, []) := rfl
theorem zr_219_38 : z_co 219 38 = (.if_icmp .ne 10, 3, 0, 0, []) := rfl
theorem zr_219_41 : z_co 219 41 = (.aload_n 0, 1, 0, 0, []) := rfl
theorem zr_219_42 : z_co 219 42 = (.bipush (-5), 2, 0, 0, []) := rfl
theorem zr_219_44 : z_co 219 44 = (.invokevirtual 129, 3, 149, 0, [1366, 1368, 46]) := rfl
theorem zr_219_47 : z_co 219 47 = (.ireturn, 1, 0, 0, []) := rfl
theorem zr_219_48 : z_co 219 48 = (.aload_n 0, 1, 0, 0, []) := rfl
theorem zr_219_49 : z_co 219 49 = (.getfield 13, 3, 12, 3, [1193]) := rfl
theorem zr_219_52 : z_co 219 52 = (.bipush 68, 2, 0, 0, []) := rfl
theorem zr_219_54 : z_co 219 54 = (.iconst 2, 1, 0, 0, []) := rfl
theorem zr_219_55 : z_co 219 55 = (.iload_n 3, 1, 0, 0, []) := rfl
theorem zr_219_56 : z_co 219 56 = (.imul, 1, 0, 0, []) := rfl
theorem zr_219_57 : z_co 219 57 = (.iadd, 1, 0, 0, []) := rfl
theorem zr_219_58 : z_co 219 58 = (.iload_n 1, 1, 0, 0, []) := rfl
theorem zr_219_59 : z_co 219 59 = (.iastore, 1, 0, 0, []) := rfl
theorem zr_219_60 : z_co 219 60 = (.aload_n 0, 1, 0, 0, []) := rfl
theorem zr_219_61 : z_co 219 61 = (.getfield 13, 3, 12, 3, [1193]) := rfl
theorem zr_219_64 : z_co 219 64 = (.bipush 68, 2, 0, 0, []) := rfl
theorem zr_219_66 : z_co 219 66 = (.iconst 2, 1, 0, 0, []) := rfl
theorem zr_219_67 : z_co 219 67 = (.iload_n 3, 1, 0, 0, []) := rfl
theorem zr_219_68 : z_co 219 68 = (.imul, 1, 0, 0, []) := rfl
theorem zr_219_69 : z_co 219 69 = (.iadd, 1, 0, 0, []) := rfl
theorem zr_219_70 : z_co 219 70 = (.iconst 1, 1, 0, 0, []) := rfl
theorem zr_219_71 : z_co 219 71 = (.iadd, 1, 0, 0, []) := rfl
theorem zr_219_72 : z_co 219 72 = (.iload_n 2, 1, 0, 0, []) := rfl
theorem zr_219_73 : z_co 219 73 = (.iastore, 1, 0, 0, []) := rfl
theorem zr_219_74 : z_co 219 74 = (.aload_n 0, 1, 0, 0, []) := rfl
theorem zr_219_75 : z_co 219 75 = (.getfield 13, 3, 12, 3, [1193]) := rfl
theorem zr_219_78 : z_co 219 78 = (.iconst 4, 1, 0, 0, []) := rfl
theorem zr_219_79 : z_co 219 79 = (.dup2, 1, 0, 0, []) := rfl
theorem zr_219_80 : z_co 219 80 = (.iaload, 1, 0, 0, []) := rfl
theorem zr_219_81 : z_co 219 81 = (.iconst 1, 1, 0, 0, []) := rfl
theorem zr_219_82 : z_co 219 82 = (.iadd, 1, 0, 0, []) := rfl
theorem zr_219_83 : z_co 219 83 = (.iastore, 1, 0, 0, []) := rfl
theorem zr_219_84 : z_co 219 84 = (.aload_n 0, 1, 0, 0, []) := rfl
theorem zr_219_85 : z_co 219 85 = (.iload_n 3, 1, 0, 0, []) := rfl
theorem zr_219_86 : z_co 219 86 = (.invokevirtual 129, 3, 149, 0, [1366, 1368, 46]) := rfl
theorem zr_219_89 : z_co 219 89 = (.ireturn, 1, 0, 0, []) := rfl
theorem zr_220_0 : z_co 220 0 = (.aload_n 0, 1, 0, 0, []) := rfl
theorem zr_220_1 : z_co 220 1 = (.iconst 0, 1, 0, 0, []) := rfl
theorem zr_220_2 : z_co 220 2 = (.putfield 115, 3, 12, 0, [1190]) := rfl
theorem zr_220_5 : z_co 220 5 = (.iload_n 1, 1, 0, 0, []) := rfl
theorem zr_220_6 : z_co 220 6 = (.i2l, 1, 0, 0, []) := rfl
theorem zr_220_7 : z_co 220 7 = (.lconst 0, 1, 0, 0, []) := rfl
theorem zr_220_8 : z_co 220 8 = (.aload_n 0, 1, 0, 0, []) := rfl
theorem zr_220_9 : z_co 220 9 = (.getfield 13, 3, 12, 3, [1193]) := rfl
theorem zr_220_12 : z_co 220 12 = (.iconst 4, 1, 0, 0, []) := rfl
theorem zr_220_13 : z_co 220 13 = (.iaload, 1, 0, 0, []) := rfl
theorem zr_220_14 : z_co 220 14 = (.i2l, 1, 0, 0, []) := rfl
theorem zr_220_15 : z_co 220 15 = (.lconst 1, 1, 0, 0, []) := rfl
theorem zr_220_16 : z_co 220 16 = (.lsub, 1, 0, 0, []) := rfl
theorem zr_220_17 : z_co 220 17 = (.invokestatic 125, 3, 145, 0, [1363, 1364]) := rfl
theorem zr_220_20 : z_co 220 20 = (.ifCond .ne 10, 3, 0, 0, []) := rfl
theorem zr_220_23 : z_co 220 23 = (.aload_n 0, 1, 0, 0, []) := rfl
theorem zr_220_24 : z_co 220 24 = (.bipush (-2), 2, 0, 0, []) := rfl
theorem zr_220_26 : z_co 220 26 = (.invokevirtual 129, 3, 149, 0, [1366, 1368, 46]) := rfl
theorem zr_220_29 : z_co 220 29 = (.ireturn, 1, 0, 0, []) := rfl
theorem zr_220_30 : z_co 220 30 = (.bipush 68, 2, 0, 0, []) := rfl
theorem zr_220_32 : z_co 220 32 = (.iconst 2, 1, 0, 0, []) := rfl
theorem zr_220_33 : z_co 220 33 = (.iload_n 1, 1, 0, 0, []) := rfl
theorem zr_220_34 : z_co 220 34 = (.imul, 1, 0, 0, []) := rfl
theorem zr_220_35 : z_co 220 35 = (.iadd, 1, 0, 0, []) := rfl
theorem zr_220_36 : z_co 220 36 = (.istore_n 2, 1, 0, 0, []) := rfl
theorem zr_220_37 : z_co 220 37 = (.iload_n 2, 1, 0, 0, []) := rfl
theorem zr_220_38 : z_co 220 38 = (.bipush 80, 2, 0, 0, []) := rfl
theorem zr_220_40 : z_co 220 40 = (.if_icmp .ge 23, 3, 0, 0, []) := rfl
theorem zr_220_43 : z_co 220 43 = (.aload_n 0, 1, 0, 0, []) := rfl
theorem zr_220_44 : z_co 220 44 = (.getfield 13, 3, 12, 3, [1193]) := rfl
theorem zr_220_47 : z_co 220 47 = (.iload_n 2, 1, 0, 0, []) := rfl
theorem zr_220_48 : z_co 220 48 = (.aload_n 0, 1, 0, 0, []) := rfl
theorem zr_220_49 : z_co 220 49 = (.getfield 13, 3, 12, 3, [1193]) := rfl
theorem zr_220_52 : z_co 220 52 = (.iload_n 2, 1, 0, 0, []) := rfl
theorem zr_220_53 : z_co 220 53 = (.iconst 2, 1, 0, 0, []) := rfl
theorem zr_220_54 : z_co 220 54 = (.iadd, 1, 0, 0, []) := rfl
theorem zr_220_55 : z_co 220 55 = (.iaload, 1, 0, 0, []) := rfl
theorem zr_220_56 : z_co 220 56 = (.iastore, 1, 0, 0, []) := rfl
theorem zr_220_57 : z_co 220 57 = (.iinc 2 1, 3, 0, 0, []) := rfl
theorem zr_220_60 : z_co 220 60 = (.goto (-23), 3, 0, 0, []) := rfl
theorem zr_220_63 : z_co 220 63 = (.aload_n 0, 1, 0, 0, []) := rfl
theorem zr_220_64 : z_co 220 64 = (.getfield 13, 3, 12, 3, [1193]) := rfl
theorem zr_220_67 : z_co 220 67 = (.iconst 4, 1, 0, 0, []) := rfl
theorem zr_220_68 : z_co 220 68 = (.dup2, 1, 0, 0, []) := rfl
theorem zr_220_69 : z_co 220 69 = (.iaload, 1, 0, 0, []) := rfl
theorem zr_220_70 : z_co 220 70 = (.iconst 1, 1, 0, 0, []) := rfl
theorem zr_220_71 : z_co 220 71 = (.isub, 1, 0, 0, []) := rfl
theorem zr_220_72 : z_co 220 72 = (.iastore, 1, 0, 0, []) := rfl
theorem zr_220_73 : z_co 220 73 = (.aload_n 0, 1, 0, 0, []) := rfl
theorem zr_220_74 : z_co 220 74 = (.aload_n 0, 1, 0, 0, []) := rfl
theorem zr_220_75 : z_co 220 75 = (.getfield 13, 3, 12, 3, [1193]) := rfl
theorem zr_220_78 : z_co 220 78 = (.iconst 4, 1, 0, 0, []) := rfl
theorem zr_220_79 : z_co 220 79 = (.iaload, 1, 0, 0, []) := rfl
theorem zr_220_80 : z_co 220 80 = (.invokevirtual 129, 3, 149, 0, [1366, 1368, 46]) := rfl
theorem zr_220_83 : z_co 220 83 = (.ireturn, 1, 0, 0, []) := rfl
theorem zr_221_0 : z_co 221 0 = (.aload_n 0, 1, 0, 0, []) := rfl
theorem zr_221_1 : z_co 221 1 = (.aload_n 0, 1, 0, 0, []) := rfl
theorem zr_221_2 : z_co 221 2 = (.getfield 341, 3, 12, 36, [1226]) := rfl
theorem zr_221_5 : z_co 221 5 = (.putfield 404, 3, 12, 44, [1234]) := rfl
theorem zr_221_8 : z_co 221 8 = (.iconst 0, 1, 0, 0, []) := rfl
theorem zr_221_9 : z_co 221 9 = (.istore_n 1, 1, 0, 0, []) := rfl
theorem zr_221_10 : z_co 221 10 = (.iload_n 1, 1, 0, 0, []) := rfl
theorem zr_221_11 : z_co 221 11 = (.bipush 6, 2, 0, 0, []) := rfl
theorem zr_221_13 : z_co 221 13 = (.if_icmp .ge 16, 3, 0, 0, []) := rfl
theorem zr_221_16 : z_co 221 16 = (.aload_n 0, 1, 0, 0, []) := rfl
theorem zr_221_17 : z_co 221 17 = (.getfield 94, 3, 12, 43, [1233]) := rfl
theorem zr_221_20 : z_co 221 20 = (.iload_n 1, 1, 0, 0, []) := rfl
theorem zr_221_21 : z_co 221 21 = (.iconst 0, 1, 0, 0, []) := rfl
theorem zr_221_22 : z_co 221 22 = (.iastore, 1, 0, 0, []) := rfl
theorem zr_221_23 : z_co 221 23 = (.iinc 1 1, 3, 0, 0, []) := rfl
theorem zr_221_26 : z_co 221 26 = (.goto (-16), 3, 0, 0, []) := rfl
theorem zr_221_29 : z_co 221 29 = (.return_, 1, 0, 0, []) := rfl
theorem zr_222_0 : z_co 222 0 = (.iconst 0, 1, 0, 0, []) := rfl
theorem zr_222_1 : z_co 222 1 = (.istore_n 2, 1, 0, 0, []) := rfl
theorem zr_222_2 : z_co 222 2 = (.iconst 0, 1, 0, 0, []) := rfl
theorem zr_222_3 : z_co 222 3 = (.istore_n 3, 1, 0, 0, []) := rfl
theorem zr_222_4 : z_co 222 4 = (.iload_n 3, 1, 0, 0, []) := rfl
theorem zr_222_5 : z_co 222 5 = (.aload_n 0, 1, 0, 0, []) := rfl
theorem zr_222_6 : z_co 222 6 = (.getfield 13, 3, 12, 3, [1193]) := rfl
theorem zr_222_9 : z_co 222 9 = (.iconst 1, 1, 0, 0, []) := rfl
theorem zr_222_10 : z_co 222 10 = (.iaload, 1, 0, 0, []) := rfl
theorem zr_222_11 : z_co 222 11 = (.if_icmp .ge 31, 3, 0, 0, []) := rfl
theorem zr_222_14 : z_co 222 14 = (.iload_n 2, 1, 0, 0, []) := rfl
theorem zr_222_15 : z_co 222 15 = (.ifCond .ne 15, 3, 0, 0, []) := rfl
theorem zr_222_18 : z_co 222 18 = (.aload_n 0, 1, 0, 0, []) := rfl
theorem zr_222_19 : z_co 222 19 = (.getfield 94, 3, 12, 43, [1233]) := rfl
theorem zr_222_22 : z_co 222 22 = (.iload_n 3, 1, 0, 0, []) := rfl
theorem zr_222_23 : z_co 222 23 = (.iaload, 1, 0, 0, []) := rfl
theorem zr_222_24 : z_co 222 24 = (.iload_n 1, 1, 0, 0, []) := rfl
theorem zr_222_25 : z_co 222 25 = (.iconst 1, 1, 0, 0, []) := rfl
theorem zr_222_26 : z_co 222 26 = (.iadd, 1, 0, 0, []) := rfl
theorem zr_222_27 : z_co 222 27 = (.if_icmp .ne 7, 3, 0, 0, []) := rfl
theorem zr_222_30 : z_co 222 30 = (.iconst 1, 1, 0, 0, []) := rfl
theorem zr_222_31 : z_co 222 31 = (.goto 4, 3, 0, 0, []) := rfl
theorem zr_222_34 : z_co 222 34 = (.iconst 0, 1, 0, 0, []) := rfl
theorem zr_222_35 : z_co 222 35 = (.istore_n 2, 1, 0, 0, []) := rfl
theorem zr_222_36 : z_co 222 36 = (.iinc 3 1, 3, 0, 0, []) := rfl
theorem zr_222_39 : z_co 222 39 = (.goto (-35), 3, 0, 0, []) := rfl
theorem zr_222_42 : z_co 222 42 = (.iload_n 2, 1, 0, 0, []) := rfl
theorem zr_222_43 : z_co 222 43 = (.ireturn, 1, 0, 0, []) := rfl
theorem zr_223_0 : z_co 223 0 = (.aload_n 0, 1, 0, 0, []) := rfl
theorem zr_223_1 : z_co 223 1 = (.getfield 404, 3, 12, 44, [1234]) := rfl
theorem zr_223_4 : z_co 223 4 = (.iload_n 2, 1, 0, 0, []) := rfl
theorem zr_223_5 : z_co 223 5 = (.invokestatic 359, 3, 146, 0, [1615, 1616]) := rfl
theorem zr_223_8 : z_co 223 8 = (.ifCond .ne 11, 3, 0, 0, []) := rfl
theorem zr_223_11 : z_co 223 11 = (.aload_n 0, 1, 0, 0, []) := rfl
theorem zr_223_12 : z_co 223 12 = (.iload_n 2, 1, 0, 0, []) := rfl
theorem zr_223_13 : z_co 223 13 = (.invokevirtual 407, 3, 222, 0, [1695, 1697, 94]) := rfl
theorem zr_223_16 : z_co 223 16 = (.ifCond .eq 5, 3, 0, 0, []) := rfl
theorem zr_223_19 : z_co 223 19 = (.iconst 0, 1, 0, 0, []) := rfl
theorem zr_223_20 : z_co 223 20 = (.ireturn, 1, 0, 0, []) := rfl
theorem zr_223_21 : z_co 223 21 = (.aload_n 0, 1, 0, 0, []) := rfl
theorem zr_223_22 : z_co 223 22 = (.iload_n 1, 1, 0, 0, []) := rfl
theorem zr_223_23 : z_co 223 23 = (.aload_n 0, 1, 0, 0, []) := rfl
theorem zr_223_24 : z_co 223 24 = (.getfield 94, 3, 12, 43, [1233]) := rfl
theorem zr_223_27 : z_co 223 27 = (.iload_n 1, 1, 0, 0, []) := rfl
theorem zr_223_28 : z_co 223 28 = (.iaload, 1, 0, 0, []) := rfl
theorem zr_223_29 : z_co 223 29 = (.aload_n 0, 1, 0, 0, []) := rfl
theorem zr_223_30 : z_co 223 30 = (.getfield 79, 3, 12, 34, [1224]) := rfl
theorem zr_223_33 : z_co 223 33 = (.iload_n 1, 1, 0, 0, []) := rfl
theorem zr_223_34 : z_co 223 34 = (.iaload, 1, 0, 0, []) := rfl
theorem zr_223_35 : z_co 223 35 = (.aload_n 0, 1, 0, 0, []) := rfl
theorem zr_223_36 : z_co 223 36 = (.getfield 404, 3, 12, 44, [1234]) := rfl
theorem zr_223_39 : z_co 223 39 = (.iconst (-1), 1, 0, 0, []) := rfl
theorem zr_223_40 : z_co 223 40 = (.ixor, 1, 0, 0, []) := rfl
theorem zr_223_41 : z_co 223 41 = (.iand, 1, 0, 0, []) := rfl
theorem zr_223_42 : z_co 223 42 = (.invokevirtual 366, 3, 207, 0, [1611, 1613, 82]) := rfl
theorem zr_223_45 : z_co 223 45 = (.iconst (-1), 1, 0, 0, []) := rfl
theorem zr_223_46 : z_co 223 46 = (.istore_n 3, 1, 0, 0, []) := rfl
theorem zr_223_47 : z_co 223 47 = (.iconst 0, 1, 0, 0, []) := rfl
theorem zr_223_48 : z_co 223 48 = (.istore 4, 2, 0, 0, []) := rfl
theorem zr_223_50 : z_co 223 50 = (.iload 4, 2, 0, 0, []) := rfl
theorem zr_223_52 : z_co 223 52 = (.aload_n 0, 1, 0, 0, []) := rfl
theorem zr_223_53 : z_co 223 53 = (.invokevirtual 132, 3, 154, 0, [1383, 1385, 47]) := rfl
theorem zr_223_56 : z_co 223 56 = (.if_icmp .gt 92, 3, 0, 0, []) := rfl
theorem zr_223_59 : z_co 223 59 = (.aload_n 0, 1, 0, 0, []) := rfl
theorem zr_223_60 : z_co 223 60 = (.getfield 85, 3, 12, 37, [1227]) := rfl
theorem zr_223_63 : z_co 223 63 = (.iload 4, 2, 0, 0, []) := rfl
theorem zr_223_65 : z_co 223 65 = (.iaload, 1, 0, 0, []) := rfl
theorem zr_223_66 : z_co 223 66 = (.iconst (-1), 1, 0, 0, []) := rfl
theorem zr_223_67 : z_co 223 67 = (.if_icmp .eq 39, 3, 0, 0, []) := rfl
theorem zr_223_70 : z_co 223 70 = (.iload 4, 2, 0, 0, []) := rfl
theorem zr_223_72 : z_co 223 72 = (.iload_n 2, 1, 0, 0, []) := rfl
theorem zr_223_73 : z_co 223 73 = (.iconst 1, 1, 0, 0, []) := rfl
theorem zr_223_74 : z_co 223 74 = (.iadd, 1, 0, 0, []) := rfl
theorem zr_223_75 : z_co 223 75 = (.if_icmp .eq 31, 3, 0, 0, []) := rfl
theorem zr_223_78 : z_co 223 78 = (.aload_n 0, 1, 0, 0, []) := rfl
theorem zr_223_79 : z_co 223 79 = (.iload 4, 2, 0, 0, []) := rfl
theorem zr_223_81 : z_co 223 81 = (.invokevirtual 356, 3, 205, 0, [1622, 1624, 84]) := rfl
theorem zr_223_84 : z_co 223 84 = (.aload_n 0, 1, 0, 0, []) := rfl
theorem zr_223_85 : z_co 223 85 = (.getfield 76, 3, 12, 33, [1223]) := rfl
theorem zr_223_88 : z_co 223 88 = (.iload_n 2, 1, 0, 0, []) := rfl
theorem zr_223_89 : z_co 223 89 = (.iaload, 1, 0, 0, []) := rfl
theorem zr_223_90 : z_co 223 90 = (.isub, 1, 0, 0, []) := rfl
theorem zr_223_91 : z_co 223 91 = (.invokestatic 410, 3, 148, 0, [1699, 1700]) := rfl
theorem zr_223_94 : z_co 223 94 = (.aload_n 0, 1, 0, 0, []) := rfl
theorem zr_223_95 : z_co 223 95 = (.iload_n 1, 1, 0, 0, []) := rfl
theorem zr_223_96 : z_co 223 96 = (.invokevirtual 350, 3, 158, 0, [1428, 1430, 56]) := rfl
theorem zr_223_99 : z_co 223 99 = (.if_icmp .gt 7, 3, 0, 0, []) := rfl
theorem zr_223_102 : z_co 223 102 = (.iconst 1, 1, 0, 0, []) := rfl
theorem zr_223_103 : z_co 223 103 = (.goto 4, 3, 0, 0, []) := rfl
theorem zr_223_106 : z_co 223 106 = (.iconst 0, 1, 0, 0, []) := rfl
theorem zr_223_107 : z_co 223 107 = (.istore 5, 2, 0, 0, []) := rfl
theorem zr_223_109 : z_co 223 109 = (.iload 5, 2, 0, 0, []) := rfl
theorem zr_223_111 : z_co 223 111 = (.ifCond .eq 29, 3, 0, 0, []) := rfl
theorem zr_223_114 : z_co 223 114 = (.iload_n 3, 1, 0, 0, []) := rfl
theorem zr_223_115 : z_co 223 115 = (.iconst (-1), 1, 0, 0, []) := rfl
theorem zr_223_116 : z_co 223 116 = (.if_icmp .eq 19, 3, 0, 0, []) := rfl
theorem zr_223_119 : z_co 223 119 = (.aload_n 0, 1, 0, 0, []) := rfl
theorem zr_223_120 : z_co 223 120 = (.getfield 85, 3, 12, 37, [1227]) := rfl
theorem zr_223_123 : z_co 223 123 = (.iload 4, 2, 0, 0, []) := rfl
theorem zr_223_125 : z_co 223 125 = (.iaload, 1, 0, 0, []) := rfl
theorem zr_223_126 : z_co 223 126 = (.aload_n 0, 1, 0, 0, []) := rfl
theorem zr_223_127 : z_co 223 127 = (.getfield 85, 3, 12, 37, [1227]) := rfl
theorem zr_223_130 : z_co 223 130 = (.iload_n 3, 1, 0, 0, []) := rfl
theorem zr_223_131 : z_co 223 131 = (.iaload, 1, 0, 0, []) := rfl
theorem zr_223_132 : z_co 223 132 = (.if_icmp .ge 8, 3, 0, 0, []) := rfl
theorem zr_223_135 : z_co 223 135 = (.iload 4, 2, 0, 0, []) := rfl
theorem zr_223_137 : z_co 223 137 = (.goto 4, 3, 0, 0, []) := rfl
theorem zr_223_140 : z_co 223 140 = (.iload_n 3, 1, 0, 0, []) := rfl
theorem zr_223_141 : z_co 223 141 = (.istore_n 3, 1, 0, 0, []) := rfl
theorem zr_223_142 : z_co 223 142 = (.iinc 4 1, 3, 0, 0, []) := rfl
theorem zr_223_145 : z_co 223 145 = (.goto (-95), 3, 0, 0, []) := rfl
theorem zr_223_148 : z_co 223 148 = (.iload_n 3, 1, 0, 0, []) := rfl
theorem zr_223_149 : z_co 223 149 = (.iconst (-1), 1, 0, 0, []) := rfl
theorem zr_223_150 : z_co 223 150 = (.if_icmp .ne 5, 3, 0, 0, []) := rfl
theorem zr_223_153 : z_co 223 153 = (.iconst 0, 1, 0, 0, []) := rfl
theorem zr_223_154 : z_co 223 154 = (.ireturn, 1, 0, 0, []) := rfl
theorem zr_223_155 : z_co 223 155 = (.aload_n 0, 1, 0, 0, []) := rfl
theorem zr_223_156 : z_co 223 156 = (.getfield 94, 3, 12, 43, [1233]) := rfl
theorem zr_223_159 : z_co 223 159 = (.iload_n 1, 1, 0, 0, []) := rfl
theorem zr_223_160 : z_co 223 160 = (.iload_n 3, 1, 0, 0, []) := rfl
theorem zr_223_161 : z_co 223 161 = (.iastore, 1, 0, 0, []) := rfl
theorem zr_223_162 : z_co 223 162 = (.aload_n 0, 1, 0, 0, []) := rfl
theorem zr_223_163 : z_co 223 163 = (.dup, 1, 0, 0, []) := rfl
theorem zr_223_164 : z_co 223 164 = (.getfield 404, 3, 12, 44, [1234]) := rfl
theorem zr_223_167 : z_co 223 167 = (.iconst 1, 1, 0, 0, []) := rfl
theorem zr_223_168 : z_co 223 168 = (.iload_n 2, 1, 0, 0, []) := rfl
theorem zr_223_169 : z_co 223 169 = (.ishl, 1, 0, 0, []) := rfl
theorem zr_223_170 : z_co 223 170 = (.ior, 1, 0, 0, []) := rfl
theorem zr_223_171 : z_co 223 171 = (.putfield 404, 3, 12, 44, [1234]) := rfl
theorem zr_223_174 : z_co 223 174 = (.iconst 1, 1, 0, 0, []) := rfl
theorem zr_223_175 : z_co 223 175 = (.ireturn, 1, 0, 0, []) := rfl
theorem zr_224_0 : z_co 224 0 = (.iconst 0, 1, 0, 0, []) := rfl
theorem zr_224_1 : z_co 224 1 = (.istore_n 1, 1, 0, 0, []) := rfl
theorem zr_224_2 : z_co 224 2 = (.iconst 0, 1, 0, 0, []) := rfl
theorem zr_224_3 : z_co 224 3 = (.istore_n 2, 1, 0, 0, []) := rfl
theorem zr_224_4 : z_co 224 4 = (.iload_n 2, 1, 0, 0, []) := rfl
theorem zr_224_5 : z_co 224 5 = (.aload_n 0, 1, 0, 0, []) := rfl
theorem zr_224_6 : z_co 224 6 = (.getfield 13, 3, 12, 3, [1193]) := rfl
theorem zr_224_9 : z_co 224 9 = (.iconst 1, 1, 0, 0, []) := rfl
theorem zr_224_10 : z_co 224 10 = (.iaload, 1, 0, 0, []) := rfl
theorem zr_224_11 : z_co 224 11 = (.if_icmp .ge 62, 3, 0, 0, []) := rfl
theorem zr_224_14 : z_co 224 14 = (.aload_n 0, 1, 0, 0, []) := rfl
theorem zr_224_15 : z_co 224 15 = (.getfield 94, 3, 12, 43, [1233]) := rfl
theorem zr_224_18 : z_co 224 18 = (.iload_n 2, 1, 0, 0, []) := rfl
theorem zr_224_19 : z_co 224 19 = (.iaload, 1, 0, 0, []) := rfl
theorem zr_224_20 : z_co 224 20 = (.ifCond .eq 47, 3, 0, 0, []) := rfl
theorem zr_224_23 : z_co 224 23 = (.aload_n 0, 1, 0, 0, []) := rfl
theorem zr_224_24 : z_co 224 24 = (.iload_n 2, 1, 0, 0, []) := rfl
theorem zr_224_25 : z_co 224 25 = (.aload_n 0, 1, 0, 0, []) := rfl
theorem zr_224_26 : z_co 224 26 = (.getfield 94, 3, 12, 43, [1233]) := rfl
theorem zr_224_29 : z_co 224 29 = (.iload_n 2, 1, 0, 0, []) := rfl
theorem zr_224_30 : z_co 224 30 = (.iaload, 1, 0, 0, []) := rfl
theorem zr_224_31 : z_co 224 31 = (.aload_n 0, 1, 0, 0, []) := rfl
theorem zr_224_32 : z_co 224 32 = (.getfield 79, 3, 12, 34, [1224]) := rfl
theorem zr_224_35 : z_co 224 35 = (.iload_n 2, 1, 0, 0, []) := rfl
theorem zr_224_36 : z_co 224 36 = (.iaload, 1, 0, 0, []) := rfl
theorem zr_224_37 : z_co 224 37 = (.aload_n 0, 1, 0, 0, []) := rfl
theorem zr_224_38 : z_co 224 38 = (.getfield 404, 3, 12, 44, [1234]) := rfl
theorem zr_224_41 : z_co 224 41 = (.iconst (-1), 1, 0, 0, []) := rfl
theorem zr_224_42 : z_co 224 42 = (.ixor, 1, 0, 0, []) := rfl
theorem zr_224_43 : z_co 224 43 = (.iand, 1, 0, 0, []) := rfl
theorem zr_224_44 : z_co 224 44 = (.invokevirtual 366, 3, 207, 0, [1611, 1613, 82]) := rfl
theorem zr_224_47 : z_co 224 47 = (.iload_n 1, 1, 0, 0, []) := rfl
theorem zr_224_48 : z_co 224 48 = (.aload_n 0, 1, 0, 0, []) := rfl
theorem zr_224_49 : z_co 224 49 = (.getfield 85, 3, 12, 37, [1227]) := rfl
theorem zr_224_52 : z_co 224 52 = (.iconst 0, 1, 0, 0, []) := rfl
theorem zr_224_53 : z_co 224 53 = (.iaload, 1, 0, 0, []) := rfl
theorem zr_224_54 : z_co 224 54 = (.iconst (-1), 1, 0, 0, []) := rfl
theorem zr_224_55 : z_co 224 55 = (.if_icmp .ne 9, 3, 0, 0, []) := rfl
theorem zr_224_58 : z_co 224 58 = (.iconst 1, 1, 0, 0, []) := rfl
theorem zr_224_59 : z_co 224 59 = (.iload_n 2, 1, 0, 0, []) := rfl
theorem zr_224_60 : z_co 224 60 = (.ishl, 1, 0, 0, []) := rfl
theorem zr_224_61 : z_co 224 61 = (.goto 4, 3, 0, 0, []) := rfl
theorem zr_224_64 : z_co 224 64 = (.iconst 0, 1, 0, 0, []) := rfl
theorem zr_224_65 : z_co 224 65 = (.ior, 1, 0, 0, []) := rfl
theorem zr_224_66 : z_co 224 66 = (.istore_n 1, 1, 0, 0, []) := rfl
theorem zr_224_67 : z_co 224 67 = (.iinc 2 1, 3, 0, 0, []) := rfl
theorem zr_224_70 : z_co 224 70 = (.goto (-66), 3, 0, 0, []) := rfl
theorem zr_224_73 : z_co 224 73 = (.iload_n 1, 1, 0, 0, []) := rfl
theorem zr_224_74 : z_co 224 74 = (.ireturn, 1, 0, 0, []) := rfl
theorem zr_225_0 : z_co 225 0 = (.aload_n 0, 1, 0, 0, []) := rfl
theorem zr_225_1 : z_co 225 1 = (.getfield 13, 3, 12, 3, [1193]) := rfl
theorem zr_225_4 : z_co 225 4 = (.bipush 68, 2, 0, 0, []) := rfl
theorem zr_225_6 : z_co 225 6 = (.iconst 2, 1, 0, 0, []) := rfl
theorem zr_225_7 : z_co 225 7 = (.iload_n 1, 1, 0, 0, []) := rfl
theorem zr_225_8 : z_co 225 8 = (.imul, 1, 0, 0, []) := rfl
theorem zr_225_9 : z_co 225 9 = (.iadd, 1, 0, 0, []) := rfl
theorem zr_225_10 : z_co 225 10 = (.iaload, 1, 0, 0, []) := rfl
theorem zr_225_11 : z_co 225 11 = (.ireturn, 1, 0, 0, []) := rfl
theorem zr_226_0 : z_co 226 0 = (.aload_n 0, 1, 0, 0, []) := rfl
theorem zr_226_1 : z_co 226 1 = (.invokevirtual 413, 3, 221, 0, [1683, 1685, 91]) := rfl
theorem zr_226_4 : z_co 226 4 = (.iconst 0, 1, 0, 0, []) := rfl
theorem zr_226_5 : z_co 226 5 = (.istore_n 1, 1, 0, 0, []) := rfl
theorem zr_226_6 : z_co 226 6 = (.iconst 0, 1, 0, 0, []) := rfl
theorem zr_226_7 : z_co 226 7 = (.istore_n 2, 1, 0, 0, []) := rfl
theorem zr_226_8 : z_co 226 8 = (.iload_n 2, 1, 0, 0, []) := rfl
theorem zr_226_9 : z_co 226 9 = (.aload_n 0, 1, 0, 0, []) := rfl
theorem zr_226_10 : z_co 226 10 = (.getfield 13, 3, 12, 3, [1193]) := rfl
theorem zr_226_13 : z_co 226 13 = (.iconst 4, 1, 0, 0, []) := rfl
theorem zr_226_14 : z_co 226 14 = (.iaload, 1, 0, 0, []) := rfl
theorem zr_226_15 : z_co 226 15 = (.if_icmp .ge 37, 3, 0, 0, []) := rfl
theorem zr_226_18 : z_co 226 18 = (.iload_n 1, 1, 0, 0, []) := rfl
theorem zr_226_19 : z_co 226 19 = (.aload_n 0, 1, 0, 0, []) := rfl
theorem zr_226_20 : z_co 226 20 = (.aload_n 0, 1, 0, 0, []) := rfl
theorem zr_226_21 : z_co 226 21 = (.iload_n 2, 1, 0, 0, []) := rfl
theorem zr_226_22 : z_co 226 22 = (.invokevirtual 416, 3, 225, 0, [1687, 1689, 92]) := rfl
theorem zr_226_25 : z_co 226 25 = (.aload_n 0, 1, 0, 0, []) := rfl
theorem zr_226_26 : z_co 226 26 = (.getfield 82, 3, 12, 35, [1225]) := rfl
theorem zr_226_29 : z_co 226 29 = (.iload_n 2, 1, 0, 0, []) := rfl
theorem zr_226_30 : z_co 226 30 = (.iaload, 1, 0, 0, []) := rfl
theorem zr_226_31 : z_co 226 31 = (.invokevirtual 419, 3, 223, 0, [1691, 1693, 93]) := rfl
theorem zr_226_34 : z_co 226 34 = (.ifCond .eq 9, 3, 0, 0, []) := rfl
theorem zr_226_37 : z_co 226 37 = (.iconst 1, 1, 0, 0, []) := rfl
theorem zr_226_38 : z_co 226 38 = (.iload_n 2, 1, 0, 0, []) := rfl
theorem zr_226_39 : z_co 226 39 = (.ishl, 1, 0, 0, []) := rfl
theorem zr_226_40 : z_co 226 40 = (.goto 4, 3, 0, 0, []) := rfl
theorem zr_226_43 : z_co 226 43 = (.iconst 0, 1, 0, 0, []) := rfl
theorem zr_226_44 : z_co 226 44 = (.ior, 1, 0, 0, []) := rfl
theorem zr_226_45 : z_co 226 45 = (.istore_n 1, 1, 0, 0, []) := rfl
theorem zr_226_46 : z_co 226 46 = (.iinc 2 1, 3, 0, 0, []) := rfl
theorem zr_226_49 : z_co 226 49 = (.goto (-41), 3, 0, 0, []) := rfl
theorem zr_226_52 : z_co 226 52 = (.iload_n 1, 1, 0, 0, []) := rfl
theorem zr_226_53 : z_co 226 53 = (.ireturn, 1, 0, 0, []) := rfl
theorem zr_227_0 : z_co 227 0 = (.aload_n 0, 1, 0, 0, []) := rfl
theorem zr_227_1 : z_co 227 1 = (.iconst 0, 1, 0, 0, []) := rfl
theorem zr_227_2 : z_co 227 2 = (.putfield 115, 3, 12, 0, [1190]) := rfl
theorem zr_227_5 : z_co 227 5 = (.iload_n 1, 1, 0, 0, []) := rfl
theorem zr_227_6 : z_co 227 6 = (.i2l, 1, 0, 0, []) := rfl
theorem zr_227_7 : z_co 227 7 = (.lconst 0, 1, 0, 0, []) := rfl
theorem zr_227_8 : z_co 227 8 = (.ldc2_w 402, 3, 2, 0, [1662]) := rfl
theorem zr_227_11 : z_co 227 11 = (.invokestatic 125, 3, 145, 0, [1363, 1364]) := rfl
theorem zr_227_14 : z_co 227 14 = (.ifCond .ne 5, 3, 0, 0, []) := rfl
theorem zr_227_17 : z_co 227 17 = (.iconst (-1), 1, 0, 0, []) := rfl
theorem zr_227_18 : z_co 227 18 = (.ireturn, 1, 0, 0, []) := rfl
theorem zr_227_19 : z_co 227 19 = (.aload_n 0, 1, 0, 0, []) := rfl
theorem zr_227_20 : z_co 227 20 = (.invokevirtual 158, 3, 201, 0, [1412, 1414, 52]) := rfl
theorem zr_227_23 : z_co 227 23 = (.aload_n 0, 1, 0, 0, []) := rfl
theorem zr_227_24 : z_co 227 24 = (.invokevirtual 422, 3, 226, 0, [1679, 1681, 90]) := rfl
theorem zr_227_27 : z_co 227 27 = (.istore_n 2, 1, 0, 0, []) := rfl
theorem zr_227_28 : z_co 227 28 = (.iload_n 1, 1, 0, 0, []) := rfl
theorem zr_227_29 : z_co 227 29 = (.ifCond .ne 7, 3, 0, 0, []) := rfl
theorem zr_227_32 : z_co 227 32 = (.iload_n 2, 1, 0, 0, []) := rfl
theorem zr_227_33 : z_co 227 33 = (.goto 19, 3, 0, 0, []) := rfl
theorem zr_227_36 : z_co 227 36 = (.iload_n 1, 1, 0, 0, []) := rfl
theorem zr_227_37 : z_co 227 37 = (.iconst 1, 1, 0, 0, []) := rfl
theorem zr_227_38 : z_co 227 38 = (.if_icmp .ne 10, 3, 0, 0, []) := rfl
theorem zr_227_41 : z_co 227 41 = (.aload_n 0, 1, 0, 0, []) := rfl
theorem zr_227_42 : z_co 227 42 = (.invokevirtual 425, 3, 224, 0, [1702, 1704, 95]) := rfl
theorem zr_227_45 : z_co 227 45 = (.goto 7, 3, 0, 0, []) := rfl
theorem zr_227_48 : z_co 227 48 = (.aload_n 0, 1, 0, 0, []) := rfl
theorem zr_227_49 : z_co 227 49 = (.getfield 404, 3, 12, 44, [1234]) := rfl
theorem zr_227_52 : z_co 227 52 = (.ireturn, 1, 0, 0, []) := rfl
theorem zr_228_0 : z_co 228 0 = (.aload_n 0, 1, 0, 0, []) := rfl
theorem zr_228_1 : z_co 228 1 = (.iconst 0, 1, 0, 0, []) := rfl
theorem zr_228_2 : z_co 228 2 = (.putfield 115, 3, 12, 0, [1190]) := rfl
theorem zr_228_5 : z_co 228 5 = (.aload_n 0, 1, 0, 0, []) := rfl
theorem zr_228_6 : z_co 228 6 = (.iload_n 1, 1, 0, 0, []) := rfl
theorem zr_228_7 : z_co 228 7 = (.invokevirtual 169, 3, 156, 0, [1458, 1460, 60]) := rfl
theorem zr_228_10 : z_co 228 10 = (.ifCond .ne 5, 3, 0, 0, []) := rfl
theorem zr_228_13 : z_co 228 13 = (.iconst (-1), 1, 0, 0, []) := rfl
theorem zr_228_14 : z_co 228 14 = (.ireturn, 1, 0, 0, []) := rfl
theorem zr_228_15 : z_co 228 15 = (.aload_n 0, 1, 0, 0, []) := rfl
theorem zr_228_16 : z_co 228 16 = (.invokevirtual 158, 3, 201, 0, [1412, 1414, 52]) := rfl
theorem zr_228_19 : z_co 228 19 = (.aload_n 0, 1, 0, 0, []) := rfl
theorem zr_228_20 : z_co 228 20 = (.invokevirtual 422, 3, 226, 0, [1679, 1681, 90]) := rfl
theorem zr_228_23 : z_co 228 23 = (.ifCond .lt 12, 3, 0, 0, []) := rfl
theorem zr_228_26 : z_co 228 26 = (.aload_n 0, 1, 0, 0, []) := rfl
theorem zr_228_27 : z_co 228 27 = (.getfield 94, 3, 12, 43, [1233]) := rfl
theorem zr_228_30 : z_co 228 30 = (.iload_n 1, 1, 0, 0, []) := rfl
theorem zr_228_31 : z_co 228 31 = (.iaload, 1, 0, 0, []) := rfl
theorem zr_228_32 : z_co 228 32 = (.ifCond .ne 8, 3, 0, 0, []) := rfl
theorem zr_228_35 : z_co 228 35 = (.bipush 100, 2, 0, 0, []) := rfl
theorem zr_228_37 : z_co 228 37 = (.goto 11, 3, 0, 0, []) := rfl
theorem zr_228_40 : z_co 228 40 = (.aload_n 0, 1, 0, 0, []) := rfl
theorem zr_228_41 : z_co 228 41 = (.getfield 94, 3, 12, 43, [1233]) := rfl
theorem zr_228_44 : z_co 228 44 = (.iload_n 1, 1, 0, 0, []) := rfl
theorem zr_228_45 : z_co 228 45 = (.iaload, 1, 0, 0, []) := rfl
theorem zr_228_46 : z_co 228 46 = (.iconst 1, 1, 0, 0, []) := rfl
theorem zr_228_47 : z_co 228 47 = (.isub, 1, 0, 0, []) := rfl
theorem zr_228_48 : z_co 228 48 = (.ireturn, 1, 0, 0, []) := rfl
theorem zr_229_0 : z_co 229 0 = (.iconst 0, 1, 0, 0, []) := rfl
theorem zr_229_1 : z_co 229 1 = (.istore_n 2, 1, 0, 0, []) := rfl
theorem zr_229_2 : z_co 229 2 = (.iload_n 2, 1, 0, 0, []) := rfl
theorem zr_229_3 : z_co 229 3 = (.iload_n 1, 1, 0, 0, []) := rfl
theorem zr_229_4 : z_co 229 4 = (.if_icmp .ge 16, 3, 0, 0, []) := rfl
theorem zr_229_7 : z_co 229 7 = (.aload_n 0, 1, 0, 0, []) := rfl
theorem zr_229_8 : z_co 229 8 = (.getfield 97, 3, 12, 45, [1235]) := rfl
theorem zr_229_11 : z_co 229 11 = (.iload_n 2, 1, 0, 0, []) := rfl
theorem zr_229_12 : z_co 229 12 = (.iload_n 2, 1, 0, 0, []) := rfl
theorem zr_229_13 : z_co 229 13 = (.iastore, 1, 0, 0, []) := rfl
theorem zr_229_14 : z_co 229 14 = (.iinc 2 1, 3, 0, 0, []) := rfl
theorem zr_229_17 : z_co 229 17 = (.goto (-15), 3, 0, 0, []) := rfl
theorem zr_229_20 : z_co 229 20 = (.aload_n 0, 1, 0, 0, []) := rfl
theorem zr_229_21 : z_co 229 21 = (.iconst (-1), 1, 0, 0, []) := rfl
theorem zr_229_22 : z_co 229 22 = (.putfield 428, 3, 12, 47, [1237]) := rfl
theorem zr_229_25 : z_co 229 25 = (.aload_n 0, 1, 0, 0, []) := rfl
theorem zr_229_26 : z_co 229 26 = (.iconst 0, 1, 0, 0, []) := rfl
theorem zr_229_27 : z_co 229 27 = (.putfield 431, 3, 12, 48, [1238]) := rfl
theorem zr_229_30 : z_co 229 30 = (.aload_n 0, 1, 0, 0, []) := rfl
theorem zr_229_31 : z_co 229 31 = (.iconst 0, 1, 0, 0, []) := rfl
theorem zr_229_32 : z_co 229 32 = (.putfield 434, 3, 12, 49, [1239]) := rfl
theorem zr_229_35 : z_co 229 35 = (.return_, 1, 0, 0, []) := rfl
theorem zr_230_0 : z_co 230 0 = (.iload_n 1, 1, 0, 0, []) := rfl
theorem zr_230_1 : z_co 230 1 = (.iconst 2, 1, 0, 0, []) := rfl
theorem zr_230_2 : z_co 230 2 = (.isub, 1, 0, 0, []) := rfl
theorem zr_230_3 : z_co 230 3 = (.istore_n 2, 1, 0, 0, []) := rfl
theorem zr_230_4 : z_co 230 4 = (.iload_n 2, 1, 0, 0, []) := rfl
theorem zr_230_5 : z_co 230 5 = (.ifCond .lt 26, 3, 0, 0, []) := rfl
theorem zr_230_8 : z_co 230 8 = (.aload_n 0, 1, 0, 0, []) := rfl
theorem zr_230_9 : z_co 230 9 = (.getfield 97, 3, 12, 45, [1235]) := rfl
theorem zr_230_12 : z_co 230 12 = (.iload_n 2, 1, 0, 0, []) := rfl
theorem zr_230_13 : z_co 230 13 = (.iaload, 1, 0, 0, []) := rfl
theorem zr_230_14 : z_co 230 14 = (.aload_n 0, 1, 0, 0, []) := rfl
theorem zr_230_15 : z_co 230 15 = (.getfield 97, 3, 12, 45, [1235]) := rfl
theorem zr_230_18 : z_co 230 18 = (.iload_n 2, 1, 0, 0, []) := rfl
theorem zr_230_19 : z_co 230 19 = (.iconst 1, 1, 0, 0, []) := rfl
theorem zr_230_20 : z_co 230 20 = (.iadd, 1, 0, 0, []) := rfl
theorem zr_230_21 : z_co 230 21 = (.iaload, 1, 0, 0, []) := rfl
theorem zr_230_22 : z_co 230 22 = (.if_icmp .le 9, 3, 0, 0, []) := rfl
theorem zr_230_25 : z_co 230 25 = (.iinc 2 (-1), 3, 0, 0, []) := rfl
theorem zr_230_28 : z_co 230 28 = (.goto (-24), 3, 0, 0, []) := rfl
theorem zr_230_31 : z_co 230 31 = (.iload_n 2, 1, 0, 0, []) := rfl
theorem zr_230_32 : z_co 230 32 = (.ifCond .ge 5, 3, 0, 0, []) := rfl
theorem zr_230_35 : z_co 230 35 = (.iconst 0, 1, 0, 0, []) := rfl
theorem zr_230_36 : z_co 230 36 = (.ireturn, 1, 0, 0, []) := rfl
theorem zr_230_37 : z_co 230 37 = (.iload_n 1, 1, 0, 0, []) := rfl
theorem zr_230_38 : z_co 230 38 = (.iconst 1, 1, 0, 0, []) := rfl
theorem zr_230_39 : z_co 230 39 = (.isub, 1, 0, 0, []) := rfl
theorem zr_230_40 : z_co 230 40 = (.istore_n 3, 1, 0, 0, []) := rfl
theorem zr_230_41 : z_co 230 41 = (.aload_n 0, 1, 0, 0, []) := rfl
theorem zr_230_42 : z_co 230 42 = (.getfield 97, 3, 12, 45, [1235]) := rfl
theorem zr_230_45 : z_co 230 45 = (.iload_n 3, 1, 0, 0, []) := rfl
theorem zr_230_46 : z_co 230 46 = (.iaload, 1, 0, 0, []) := rfl
theorem zr_230_47 : z_co 230 47 = (.aload_n 0, 1, 0, 0, []) := rfl
theorem zr_230_48 : z_co 230 48 = (.getfield 97, 3, 12, 45, [1235]) := rfl
theorem zr_230_51 : z_co 230 51 = (.iload_n 2, 1, 0, 0, []) := rfl
theorem zr_230_52 : z_co 230 52 = (.iaload, 1, 0, 0, []) := rfl
theorem zr_230_53 : z_co 230 53 = (.if_icmp .ge 9, 3, 0, 0, []) := rfl
theorem zr_230_56 : z_co 230 56 = (.iinc 3 (-1), 3, 0, 0, []) := rfl
theorem zr_230_59 : z_co 230 59 = (.goto (-18), 3, 0, 0, []) := rfl
theorem zr_230_62 : z_co 230 62 = (.aload_n 0, 1, 0, 0, []) := rfl
theorem zr_230_63 : z_co 230 63 = (.iload_n 2, 1, 0, 0, []) := rfl
theorem zr_230_64 : z_co 230 64 = (.iload_n 3, 1, 0, 0, []) := rfl
theorem zr_230_65 : z_co 230 65 = (.invokevirtual 437, 3, 231, 0, [1726, 1728, 99]) := rfl
theorem zr_230_68 : z_co 230 68 = (.iload_n 2, 1, 0, 0, []) := rfl
theorem zr_230_69 : z_co 230 69 = (.iconst 1, 1, 0, 0, []) := rfl
theorem zr_230_70 : z_co 230 70 = (.iadd, 1, 0, 0, []) := rfl
theorem zr_230_71 : z_co 230 71 = (.istore 4, 2, 0, 0, []) := rfl
theorem zr_230_73 : z_co 230 73 = (.iload_n 1, 1, 0, 0, []) := rfl
theorem zr_230_74 : z_co 230 74 = (.iconst 1, 1, 0, 0, []) := rfl
theorem zr_230_75 : z_co 230 75 = (.isub, 1, 0, 0, []) := rfl
theorem zr_230_76 : z_co 230 76 = (.istore 5, 2, 0, 0, []) := rfl
theorem zr_230_78 : z_co 230 78 = (.iload 4, 2, 0, 0, []) := rfl
theorem zr_230_80 : z_co 230 80 = (.iload 5, 2, 0, 0, []) := rfl
theorem zr_230_82 : z_co 230 82 = (.if_icmp .ge 20, 3, 0, 0, []) := rfl
theorem zr_230_85 : z_co 230 85 = (.aload_n 0, 1, 0, 0, []) := rfl
theorem zr_230_86 : z_co 230 86 = (.iload 4, 2, 0, 0, []) := rfl
theorem zr_230_88 : z_co 230 88 = (.iload 5, 2, 0, 0, []) := rfl
theorem zr_230_90 : z_co 230 90 = (.invokevirtual 437, 3, 231, 0, [1726, 1728, 99]) := rfl
theorem zr_230_93 : z_co 230 93 = (.iinc 4 1, 3, 0, 0, []) := rfl
theorem zr_230_96 : z_co 230 96 = (.iinc 5 (-1), 3, 0, 0, []) := rfl
theorem zr_230_99 : z_co 230 99 = (.goto (-21), 3, 0, 0, []) := rfl
theorem zr_230_102 : z_co 230 102 = (.iconst 1, 1, 0, 0, []) := rfl
theorem zr_230_103 : z_co 230 103 = (.ireturn, 1, 0, 0, []) := rfl
