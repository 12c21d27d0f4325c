/-! the rows: printed by a program -/
theorem zr_50_0 : z_co 50 0 = (.aload_n 1, 1, 0, 0, []) := rfl
theorem zr_50_1 : z_co 50 1 = (.iload_n 2, 1, 0, 0, []) := rfl
theorem zr_50_2 : z_co 50 2 = (.invokevirtual 80, 3, 76, 0, [854, 557, 558]) := rfl
theorem zr_50_5 : z_co 50 5 = (.ifCond .ne 4, 3, 0, 0, []) := rfl
theorem zr_50_8 : z_co 50 8 = (.return_, 1, 0, 0, []) := rfl
theorem zr_50_9 : z_co 50 9 = (.aload_n 0, 1, 0, 0, []) := rfl
theorem zr_50_10 : z_co 50 10 = (.getfield 15, 3, 7, 1, [304]) := rfl
theorem zr_50_13 : z_co 50 13 = (.iload_n 2, 1, 0, 0, []) := rfl
theorem zr_50_14 : z_co 50 14 = (.iload_n 3, 1, 0, 0, []) := rfl
theorem zr_50_15 : z_co 50 15 = (.iconst 1, 1, 0, 0, []) := rfl
theorem zr_50_16 : z_co 50 16 = (.ishl, 1, 0, 0, []) := rfl
theorem zr_50_17 : z_co 50 17 = (.iconst 1, 1, 0, 0, []) := rfl
theorem zr_50_18 : z_co 50 18 = (.ior, 1, 0, 0, []) := rfl
theorem zr_50_19 : z_co 50 19 = (.iastore, 1, 0, 0, []) := rfl
theorem zr_50_20 : z_co 50 20 = (.aload_n 1, 1, 0, 0, []) := rfl
theorem zr_50_21 : z_co 50 21 = (.getfield 83, 3, 10, 1, [150]) := rfl
theorem zr_50_24 : z_co 50 24 = (.iconst 0, 1, 0, 0, []) := rfl
theorem zr_50_25 : z_co 50 25 = (.aaload, 1, 0, 0, []) := rfl
theorem zr_50_26 : z_co 50 26 = (.iload_n 2, 1, 0, 0, []) := rfl
theorem zr_50_27 : z_co 50 27 = (.iaload, 1, 0, 0, []) := rfl
theorem zr_50_28 : z_co 50 28 = (.istore 4, 2, 0, 0, []) := rfl
theorem zr_50_30 : z_co 50 30 = (.iload 4, 2, 0, 0, []) := rfl
theorem zr_50_32 : z_co 50 32 = (.aload_n 1, 1, 0, 0, []) := rfl
theorem zr_50_33 : z_co 50 33 = (.getfield 85, 3, 10, 2, [154]) := rfl
theorem zr_50_36 : z_co 50 36 = (.iconst 1, 1, 0, 0, []) := rfl
theorem zr_50_37 : z_co 50 37 = (.iaload, 1, 0, 0, []) := rfl
theorem zr_50_38 : z_co 50 38 = (.iadd, 1, 0, 0, []) := rfl
theorem zr_50_39 : z_co 50 39 = (.istore 5, 2, 0, 0, []) := rfl
theorem zr_50_41 : z_co 50 41 = (.iconst 0, 1, 0, 0, []) := rfl
theorem zr_50_42 : z_co 50 42 = (.istore 6, 2, 0, 0, []) := rfl
theorem zr_50_44 : z_co 50 44 = (.iload 6, 2, 0, 0, []) := rfl
theorem zr_50_46 : z_co 50 46 = (.aload_n 0, 1, 0, 0, []) := rfl
theorem zr_50_47 : z_co 50 47 = (.getfield 47, 3, 7, 8, [316]) := rfl
theorem zr_50_50 : z_co 50 50 = (.if_icmp .gt 129, 3, 0, 0, []) := rfl
theorem zr_50_53 : z_co 50 53 = (.iconst 0, 1, 0, 0, []) := rfl
theorem zr_50_54 : z_co 50 54 = (.istore 7, 2, 0, 0, []) := rfl
theorem zr_50_56 : z_co 50 56 = (.iconst 0, 1, 0, 0, []) := rfl
theorem zr_50_57 : z_co 50 57 = (.istore 8, 2, 0, 0, []) := rfl
theorem zr_50_59 : z_co 50 59 = (.iconst 0, 1, 0, 0, []) := rfl
theorem zr_50_60 : z_co 50 60 = (.istore 9, 2, 0, 0, []) := rfl
theorem zr_50_62 : z_co 50 62 = (.iload 9, 2, 0, 0, []) := rfl
theorem zr_50_64 : z_co 50 64 = (.aload_n 0, 1, 0, 0, []) := rfl
theorem zr_50_65 : z_co 50 65 = (.getfield 47, 3, 7, 8, [316]) := rfl
theorem zr_50_68 : z_co 50 68 = (.if_icmp .gt 83, 3, 0, 0, []) := rfl
theorem zr_50_71 : z_co 50 71 = (.aload_n 0, 1, 0, 0, []) := rfl
theorem zr_50_72 : z_co 50 72 = (.getfield 9, 3, 7, 0, [303]) := rfl
theorem zr_50_75 : z_co 50 75 = (.iload 9, 2, 0, 0, []) := rfl
theorem zr_50_77 : z_co 50 77 = (.iaload, 1, 0, 0, []) := rfl
theorem zr_50_78 : z_co 50 78 = (.aload_n 0, 1, 0, 0, []) := rfl
theorem zr_50_79 : z_co 50 79 = (.getfield 9, 3, 7, 0, [303]) := rfl
theorem zr_50_82 : z_co 50 82 = (.iload 6, 2, 0, 0, []) := rfl
theorem zr_50_84 : z_co 50 84 = (.iaload, 1, 0, 0, []) := rfl
theorem zr_50_85 : z_co 50 85 = (.isub, 1, 0, 0, []) := rfl
theorem zr_50_86 : z_co 50 86 = (.istore 10, 2, 0, 0, []) := rfl
theorem zr_50_88 : z_co 50 88 = (.iload 9, 2, 0, 0, []) := rfl
theorem zr_50_90 : z_co 50 90 = (.iload 6, 2, 0, 0, []) := rfl
theorem zr_50_92 : z_co 50 92 = (.if_icmp .eq 27, 3, 0, 0, []) := rfl
theorem zr_50_95 : z_co 50 95 = (.iload 10, 2, 0, 0, []) := rfl
theorem zr_50_97 : z_co 50 97 = (.iload 4, 2, 0, 0, []) := rfl
theorem zr_50_99 : z_co 50 99 = (.if_icmp .gt 20, 3, 0, 0, []) := rfl
theorem zr_50_102 : z_co 50 102 = (.iload 10, 2, 0, 0, []) := rfl
theorem zr_50_104 : z_co 50 104 = (.ineg, 1, 0, 0, []) := rfl
theorem zr_50_105 : z_co 50 105 = (.iload 5, 2, 0, 0, []) := rfl
theorem zr_50_107 : z_co 50 107 = (.if_icmp .gt 12, 3, 0, 0, []) := rfl
theorem zr_50_110 : z_co 50 110 = (.iload 7, 2, 0, 0, []) := rfl
theorem zr_50_112 : z_co 50 112 = (.iconst 1, 1, 0, 0, []) := rfl
theorem zr_50_113 : z_co 50 113 = (.iload 9, 2, 0, 0, []) := rfl
theorem zr_50_115 : z_co 50 115 = (.ishl, 1, 0, 0, []) := rfl
theorem zr_50_116 : z_co 50 116 = (.ior, 1, 0, 0, []) := rfl
theorem zr_50_117 : z_co 50 117 = (.istore 7, 2, 0, 0, []) := rfl
theorem zr_50_119 : z_co 50 119 = (.iload 9, 2, 0, 0, []) := rfl
theorem zr_50_121 : z_co 50 121 = (.iload 6, 2, 0, 0, []) := rfl
theorem zr_50_123 : z_co 50 123 = (.if_icmp .eq 22, 3, 0, 0, []) := rfl
theorem zr_50_126 : z_co 50 126 = (.iload 10, 2, 0, 0, []) := rfl
theorem zr_50_128 : z_co 50 128 = (.invokestatic 88, 3, 259, 0, [855, 856]) := rfl
theorem zr_50_131 : z_co 50 131 = (.iload 4, 2, 0, 0, []) := rfl
theorem zr_50_133 : z_co 50 133 = (.if_icmp .gt 12, 3, 0, 0, []) := rfl
theorem zr_50_136 : z_co 50 136 = (.iload 8, 2, 0, 0, []) := rfl
theorem zr_50_138 : z_co 50 138 = (.iconst 1, 1, 0, 0, []) := rfl
theorem zr_50_139 : z_co 50 139 = (.iload 9, 2, 0, 0, []) := rfl
theorem zr_50_141 : z_co 50 141 = (.ishl, 1, 0, 0, []) := rfl
theorem zr_50_142 : z_co 50 142 = (.ior, 1, 0, 0, []) := rfl
theorem zr_50_143 : z_co 50 143 = (.istore 8, 2, 0, 0, []) := rfl
theorem zr_50_145 : z_co 50 145 = (.iinc 9 1, 3, 0, 0, []) := rfl
theorem zr_50_148 : z_co 50 148 = (.goto (-86), 3, 0, 0, []) := rfl
theorem zr_50_151 : z_co 50 151 = (.aload_n 0, 1, 0, 0, []) := rfl
theorem zr_50_152 : z_co 50 152 = (.getfield 20, 3, 7, 2, [305]) := rfl
theorem zr_50_155 : z_co 50 155 = (.iload_n 2, 1, 0, 0, []) := rfl
theorem zr_50_156 : z_co 50 156 = (.aaload, 1, 0, 0, []) := rfl
theorem zr_50_157 : z_co 50 157 = (.iload 6, 2, 0, 0, []) := rfl
theorem zr_50_159 : z_co 50 159 = (.iload 7, 2, 0, 0, []) := rfl
theorem zr_50_161 : z_co 50 161 = (.iastore, 1, 0, 0, []) := rfl
theorem zr_50_162 : z_co 50 162 = (.aload_n 0, 1, 0, 0, []) := rfl
theorem zr_50_163 : z_co 50 163 = (.getfield 23, 3, 7, 3, [306]) := rfl
theorem zr_50_166 : z_co 50 166 = (.iload_n 2, 1, 0, 0, []) := rfl
theorem zr_50_167 : z_co 50 167 = (.aaload, 1, 0, 0, []) := rfl
theorem zr_50_168 : z_co 50 168 = (.iload 6, 2, 0, 0, []) := rfl
theorem zr_50_170 : z_co 50 170 = (.iload 8, 2, 0, 0, []) := rfl
theorem zr_50_172 : z_co 50 172 = (.iastore, 1, 0, 0, []) := rfl
theorem zr_50_173 : z_co 50 173 = (.iinc 6 1, 3, 0, 0, []) := rfl
theorem zr_50_176 : z_co 50 176 = (.goto (-132), 3, 0, 0, []) := rfl
theorem zr_50_179 : z_co 50 179 = (.return_, 1, 0, 0, []) := rfl
theorem zr_51_0 : z_co 51 0 = (.iconst 0, 1, 0, 0, []) := rfl
theorem zr_51_1 : z_co 51 1 = (.istore_n 3, 1, 0, 0, []) := rfl
theorem zr_51_2 : z_co 51 2 = (.iconst 0, 1, 0, 0, []) := rfl
theorem zr_51_3 : z_co 51 3 = (.istore 4, 2, 0, 0, []) := rfl
theorem zr_51_5 : z_co 51 5 = (.iload 4, 2, 0, 0, []) := rfl
theorem zr_51_7 : z_co 51 7 = (.aload_n 0, 1, 0, 0, []) := rfl
theorem zr_51_8 : z_co 51 8 = (.getfield 47, 3, 7, 8, [316]) := rfl
theorem zr_51_11 : z_co 51 11 = (.if_icmp .gt 30, 3, 0, 0, []) := rfl
theorem zr_51_14 : z_co 51 14 = (.iload_n 2, 1, 0, 0, []) := rfl
theorem zr_51_15 : z_co 51 15 = (.iload 4, 2, 0, 0, []) := rfl
theorem zr_51_17 : z_co 51 17 = (.ishr, 1, 0, 0, []) := rfl
theorem zr_51_18 : z_co 51 18 = (.iconst 1, 1, 0, 0, []) := rfl
theorem zr_51_19 : z_co 51 19 = (.iand, 1, 0, 0, []) := rfl
theorem zr_51_20 : z_co 51 20 = (.ifCond .eq 15, 3, 0, 0, []) := rfl
theorem zr_51_23 : z_co 51 23 = (.iload_n 3, 1, 0, 0, []) := rfl
theorem zr_51_24 : z_co 51 24 = (.aload_n 0, 1, 0, 0, []) := rfl
theorem zr_51_25 : z_co 51 25 = (.getfield 20, 3, 7, 2, [305]) := rfl
theorem zr_51_28 : z_co 51 28 = (.iload_n 1, 1, 0, 0, []) := rfl
theorem zr_51_29 : z_co 51 29 = (.aaload, 1, 0, 0, []) := rfl
theorem zr_51_30 : z_co 51 30 = (.iload 4, 2, 0, 0, []) := rfl
theorem zr_51_32 : z_co 51 32 = (.iaload, 1, 0, 0, []) := rfl
theorem zr_51_33 : z_co 51 33 = (.ior, 1, 0, 0, []) := rfl
theorem zr_51_34 : z_co 51 34 = (.istore_n 3, 1, 0, 0, []) := rfl
theorem zr_51_35 : z_co 51 35 = (.iinc 4 1, 3, 0, 0, []) := rfl
theorem zr_51_38 : z_co 51 38 = (.goto (-33), 3, 0, 0, []) := rfl
theorem zr_51_41 : z_co 51 41 = (.iload_n 3, 1, 0, 0, []) := rfl
theorem zr_51_42 : z_co 51 42 = (.ireturn, 1, 0, 0, []) := rfl
theorem zr_52_0 : z_co 52 0 = (.iconst 0, 1, 0, 0, []) := rfl
theorem zr_52_1 : z_co 52 1 = (.istore_n 1, 1, 0, 0, []) := rfl
theorem zr_52_2 : z_co 52 2 = (.iload_n 1, 1, 0, 0, []) := rfl
theorem zr_52_3 : z_co 52 3 = (.bipush 13, 2, 0, 0, []) := rfl
theorem zr_52_5 : z_co 52 5 = (.if_icmp .ge 19, 3, 0, 0, []) := rfl
theorem zr_52_8 : z_co 52 8 = (.iload_n 0, 1, 0, 0, []) := rfl
theorem zr_52_9 : z_co 52 9 = (.iload_n 1, 1, 0, 0, []) := rfl
theorem zr_52_10 : z_co 52 10 = (.ishr, 1, 0, 0, []) := rfl
theorem zr_52_11 : z_co 52 11 = (.iconst 1, 1, 0, 0, []) := rfl
theorem zr_52_12 : z_co 52 12 = (.iand, 1, 0, 0, []) := rfl
theorem zr_52_13 : z_co 52 13 = (.ifCond .eq 5, 3, 0, 0, []) := rfl
theorem zr_52_16 : z_co 52 16 = (.iload_n 1, 1, 0, 0, []) := rfl
theorem zr_52_17 : z_co 52 17 = (.ireturn, 1, 0, 0, []) := rfl
theorem zr_52_18 : z_co 52 18 = (.iinc 1 1, 3, 0, 0, []) := rfl
theorem zr_52_21 : z_co 52 21 = (.goto (-19), 3, 0, 0, []) := rfl
theorem zr_52_24 : z_co 52 24 = (.iconst (-1), 1, 0, 0, []) := rfl
theorem zr_52_25 : z_co 52 25 = (.ireturn, 1, 0, 0, []) := rfl
theorem zr_53_0 : z_co 53 0 = (.aload_n 0, 1, 0, 0, []) := rfl
theorem zr_53_1 : z_co 53 1 = (.getfield 15, 3, 7, 1, [304]) := rfl
theorem zr_53_4 : z_co 53 4 = (.iload_n 1, 1, 0, 0, []) := rfl
theorem zr_53_5 : z_co 53 5 = (.iaload, 1, 0, 0, []) := rfl
theorem zr_53_6 : z_co 53 6 = (.aload_n 0, 1, 0, 0, []) := rfl
theorem zr_53_7 : z_co 53 7 = (.getfield 54, 3, 7, 7, [314]) := rfl
theorem zr_53_10 : z_co 53 10 = (.iand, 1, 0, 0, []) := rfl
theorem zr_53_11 : z_co 53 11 = (.istore_n 2, 1, 0, 0, []) := rfl
theorem zr_53_12 : z_co 53 12 = (.iconst 1, 1, 0, 0, []) := rfl
theorem zr_53_13 : z_co 53 13 = (.istore_n 3, 1, 0, 0, []) := rfl
theorem zr_53_14 : z_co 53 14 = (.iconst 1, 1, 0, 0, []) := rfl
theorem zr_53_15 : z_co 53 15 = (.istore 4, 2, 0, 0, []) := rfl
theorem zr_53_17 : z_co 53 17 = (.iconst 0, 1, 0, 0, []) := rfl
theorem zr_53_18 : z_co 53 18 = (.istore 5, 2, 0, 0, []) := rfl
theorem zr_53_20 : z_co 53 20 = (.iload 5, 2, 0, 0, []) := rfl
theorem zr_53_22 : z_co 53 22 = (.bipush 13, 2, 0, 0, []) := rfl
theorem zr_53_24 : z_co 53 24 = (.if_icmp .ge 34, 3, 0, 0, []) := rfl
theorem zr_53_27 : z_co 53 27 = (.iload 4, 2, 0, 0, []) := rfl
theorem zr_53_29 : z_co 53 29 = (.ifCond .eq 29, 3, 0, 0, []) := rfl
theorem zr_53_32 : z_co 53 32 = (.aload_n 0, 1, 0, 0, []) := rfl
theorem zr_53_33 : z_co 53 33 = (.iload_n 1, 1, 0, 0, []) := rfl
theorem zr_53_34 : z_co 53 34 = (.iload 4, 2, 0, 0, []) := rfl
theorem zr_53_36 : z_co 53 36 = (.invokevirtual 92, 3, 51, 0, [862, 864, 29]) := rfl
theorem zr_53_39 : z_co 53 39 = (.iload_n 2, 1, 0, 0, []) := rfl
theorem zr_53_40 : z_co 53 40 = (.iand, 1, 0, 0, []) := rfl
theorem zr_53_41 : z_co 53 41 = (.iload_n 3, 1, 0, 0, []) := rfl
theorem zr_53_42 : z_co 53 42 = (.iconst (-1), 1, 0, 0, []) := rfl
theorem zr_53_43 : z_co 53 43 = (.ixor, 1, 0, 0, []) := rfl
theorem zr_53_44 : z_co 53 44 = (.iand, 1, 0, 0, []) := rfl
theorem zr_53_45 : z_co 53 45 = (.istore 4, 2, 0, 0, []) := rfl
theorem zr_53_47 : z_co 53 47 = (.iload_n 3, 1, 0, 0, []) := rfl
theorem zr_53_48 : z_co 53 48 = (.iload 4, 2, 0, 0, []) := rfl
theorem zr_53_50 : z_co 53 50 = (.ior, 1, 0, 0, []) := rfl
theorem zr_53_51 : z_co 53 51 = (.istore_n 3, 1, 0, 0, []) := rfl
theorem zr_53_52 : z_co 53 52 = (.iinc 5 1, 3, 0, 0, []) := rfl
theorem zr_53_55 : z_co 53 55 = (.goto (-35), 3, 0, 0, []) := rfl
theorem zr_53_58 : z_co 53 58 = (.iload_n 3, 1, 0, 0, []) := rfl
theorem zr_53_59 : z_co 53 59 = (.ireturn, 1, 0, 0, []) := rfl
theorem zr_54_0 : z_co 54 0 = (.aload_n 0, 1, 0, 0, []) := rfl
theorem zr_54_1 : z_co 54 1 = (.getfield 15, 3, 7, 1, [304]) := rfl
theorem zr_54_4 : z_co 54 4 = (.iload_n 1, 1, 0, 0, []) := rfl
theorem zr_54_5 : z_co 54 5 = (.iaload, 1, 0, 0, []) := rfl
theorem zr_54_6 : z_co 54 6 = (.aload_n 0, 1, 0, 0, []) := rfl
theorem zr_54_7 : z_co 54 7 = (.getfield 54, 3, 7, 7, [314]) := rfl
theorem zr_54_10 : z_co 54 10 = (.iand, 1, 0, 0, []) := rfl
theorem zr_54_11 : z_co 54 11 = (.istore 4, 2, 0, 0, []) := rfl
theorem zr_54_13 : z_co 54 13 = (.iconst 1, 1, 0, 0, []) := rfl
theorem zr_54_14 : z_co 54 14 = (.iload_n 2, 1, 0, 0, []) := rfl
theorem zr_54_15 : z_co 54 15 = (.ishl, 1, 0, 0, []) := rfl
theorem zr_54_16 : z_co 54 16 = (.istore 5, 2, 0, 0, []) := rfl
theorem zr_54_18 : z_co 54 18 = (.iload 5, 2, 0, 0, []) := rfl
theorem zr_54_20 : z_co 54 20 = (.istore 6, 2, 0, 0, []) := rfl
theorem zr_54_22 : z_co 54 22 = (.iconst 0, 1, 0, 0, []) := rfl
theorem zr_54_23 : z_co 54 23 = (.istore 7, 2, 0, 0, []) := rfl
theorem zr_54_25 : z_co 54 25 = (.iload 7, 2, 0, 0, []) := rfl
theorem zr_54_27 : z_co 54 27 = (.bipush 13, 2, 0, 0, []) := rfl
theorem zr_54_29 : z_co 54 29 = (.if_icmp .ge 53, 3, 0, 0, []) := rfl
theorem zr_54_32 : z_co 54 32 = (.iload 6, 2, 0, 0, []) := rfl
theorem zr_54_34 : z_co 54 34 = (.ifCond .eq 48, 3, 0, 0, []) := rfl
theorem zr_54_37 : z_co 54 37 = (.iload 6, 2, 0, 0, []) := rfl
theorem zr_54_39 : z_co 54 39 = (.iload_n 3, 1, 0, 0, []) := rfl
theorem zr_54_40 : z_co 54 40 = (.iand, 1, 0, 0, []) := rfl
theorem zr_54_41 : z_co 54 41 = (.ifCond .eq 11, 3, 0, 0, []) := rfl
theorem zr_54_44 : z_co 54 44 = (.iload 6, 2, 0, 0, []) := rfl
theorem zr_54_46 : z_co 54 46 = (.iload_n 3, 1, 0, 0, []) := rfl
theorem zr_54_47 : z_co 54 47 = (.iand, 1, 0, 0, []) := rfl
theorem zr_54_48 : z_co 54 48 = (.invokestatic 95, 3, 52, 0, [878, 879]) := rfl
theorem zr_54_51 : z_co 54 51 = (.ireturn, 1, 0, 0, []) := rfl
theorem zr_54_52 : z_co 54 52 = (.aload_n 0, 1, 0, 0, []) := rfl
theorem zr_54_53 : z_co 54 53 = (.iload_n 1, 1, 0, 0, []) := rfl
theorem zr_54_54 : z_co 54 54 = (.iload 6, 2, 0, 0, []) := rfl
theorem zr_54_56 : z_co 54 56 = (.invokevirtual 92, 3, 51, 0, [862, 864, 29]) := rfl
theorem zr_54_59 : z_co 54 59 = (.iload 4, 2, 0, 0, []) := rfl
theorem zr_54_61 : z_co 54 61 = (.iand, 1, 0, 0, []) := rfl
theorem zr_54_62 : z_co 54 62 = (.iload 5, 2, 0, 0, []) := rfl
theorem zr_54_64 : z_co 54 64 = (.iconst (-1), 1, 0, 0, []) := rfl
theorem zr_54_65 : z_co 54 65 = (.ixor, 1, 0, 0, []) := rfl
theorem zr_54_66 : z_co 54 66 = (.iand, 1, 0, 0, []) := rfl
theorem zr_54_67 : z_co 54 67 = (.istore 6, 2, 0, 0, []) := rfl
theorem zr_54_69 : z_co 54 69 = (.iload 5, 2, 0, 0, []) := rfl
theorem zr_54_71 : z_co 54 71 = (.iload 6, 2, 0, 0, []) := rfl
theorem zr_54_73 : z_co 54 73 = (.ior, 1, 0, 0, []) := rfl
theorem zr_54_74 : z_co 54 74 = (.istore 5, 2, 0, 0, []) := rfl
theorem zr_54_76 : z_co 54 76 = (.iinc 7 1, 3, 0, 0, []) := rfl
theorem zr_54_79 : z_co 54 79 = (.goto (-54), 3, 0, 0, []) := rfl
theorem zr_54_82 : z_co 54 82 = (.iconst (-1), 1, 0, 0, []) := rfl
theorem zr_54_83 : z_co 54 83 = (.ireturn, 1, 0, 0, []) := rfl
theorem zr_55_0 : z_co 55 0 = (.aload_n 0, 1, 0, 0, []) := rfl
theorem zr_55_1 : z_co 55 1 = (.iload_n 1, 1, 0, 0, []) := rfl
theorem zr_55_2 : z_co 55 2 = (.iconst 0, 1, 0, 0, []) := rfl
theorem zr_55_3 : z_co 55 3 = (.iconst 1, 1, 0, 0, []) := rfl
theorem zr_55_4 : z_co 55 4 = (.aload_n 0, 1, 0, 0, []) := rfl
theorem zr_55_5 : z_co 55 5 = (.getfield 47, 3, 7, 8, [316]) := rfl
theorem zr_55_8 : z_co 55 8 = (.ishl, 1, 0, 0, []) := rfl
theorem zr_55_9 : z_co 55 9 = (.invokevirtual 98, 3, 54, 0, [906, 907, 908]) := rfl
theorem zr_55_12 : z_co 55 12 = (.aload_n 0, 1, 0, 0, []) := rfl
theorem zr_55_13 : z_co 55 13 = (.getfield 47, 3, 7, 8, [316]) := rfl
theorem zr_55_16 : z_co 55 16 = (.if_icmp .ne 7, 3, 0, 0, []) := rfl
theorem zr_55_19 : z_co 55 19 = (.iconst 1, 1, 0, 0, []) := rfl
theorem zr_55_20 : z_co 55 20 = (.goto 4, 3, 0, 0, []) := rfl
theorem zr_55_23 : z_co 55 23 = (.iconst 0, 1, 0, 0, []) := rfl
theorem zr_55_24 : z_co 55 24 = (.ireturn, 1, 0, 0, []) := rfl
theorem zr_56_0 : z_co 56 0 = (.aload_n 0, 1, 0, 0, []) := rfl
theorem zr_56_1 : z_co 56 1 = (.getfield 15, 3, 7, 1, [304]) := rfl
theorem zr_56_4 : z_co 56 4 = (.iload_n 1, 1, 0, 0, []) := rfl
theorem zr_56_5 : z_co 56 5 = (.iaload, 1, 0, 0, []) := rfl
theorem zr_56_6 : z_co 56 6 = (.aload_n 0, 1, 0, 0, []) := rfl
theorem zr_56_7 : z_co 56 7 = (.getfield 54, 3, 7, 7, [314]) := rfl
theorem zr_56_10 : z_co 56 10 = (.iand, 1, 0, 0, []) := rfl
theorem zr_56_11 : z_co 56 11 = (.istore_n 3, 1, 0, 0, []) := rfl
theorem zr_56_12 : z_co 56 12 = (.iconst 1, 1, 0, 0, []) := rfl
theorem zr_56_13 : z_co 56 13 = (.istore 4, 2, 0, 0, []) := rfl
theorem zr_56_15 : z_co 56 15 = (.iconst 0, 1, 0, 0, []) := rfl
theorem zr_56_16 : z_co 56 16 = (.istore 5, 2, 0, 0, []) := rfl
theorem zr_56_18 : z_co 56 18 = (.aload_n 0, 1, 0, 0, []) := rfl
theorem zr_56_19 : z_co 56 19 = (.getfield 26, 3, 7, 4, [307]) := rfl
theorem zr_56_22 : z_co 56 22 = (.iconst 0, 1, 0, 0, []) := rfl
theorem zr_56_23 : z_co 56 23 = (.iconst 1, 1, 0, 0, []) := rfl
theorem zr_56_24 : z_co 56 24 = (.iastore, 1, 0, 0, []) := rfl
theorem zr_56_25 : z_co 56 25 = (.iconst 1, 1, 0, 0, []) := rfl
theorem zr_56_26 : z_co 56 26 = (.istore 6, 2, 0, 0, []) := rfl
theorem zr_56_28 : z_co 56 28 = (.iload 6, 2, 0, 0, []) := rfl
theorem zr_56_30 : z_co 56 30 = (.bipush 13, 2, 0, 0, []) := rfl
theorem zr_56_32 : z_co 56 32 = (.if_icmp .ge 62, 3, 0, 0, []) := rfl
theorem zr_56_35 : z_co 56 35 = (.iload 4, 2, 0, 0, []) := rfl
theorem zr_56_37 : z_co 56 37 = (.iload_n 2, 1, 0, 0, []) := rfl
theorem zr_56_38 : z_co 56 38 = (.ishr, 1, 0, 0, []) := rfl
theorem zr_56_39 : z_co 56 39 = (.iconst 1, 1, 0, 0, []) := rfl
theorem zr_56_40 : z_co 56 40 = (.iand, 1, 0, 0, []) := rfl
theorem zr_56_41 : z_co 56 41 = (.ifCond .ne 53, 3, 0, 0, []) := rfl
theorem zr_56_44 : z_co 56 44 = (.aload_n 0, 1, 0, 0, []) := rfl
theorem zr_56_45 : z_co 56 45 = (.getfield 26, 3, 7, 4, [307]) := rfl
theorem zr_56_48 : z_co 56 48 = (.iload 6, 2, 0, 0, []) := rfl
theorem zr_56_50 : z_co 56 50 = (.aload_n 0, 1, 0, 0, []) := rfl
theorem zr_56_51 : z_co 56 51 = (.iload_n 1, 1, 0, 0, []) := rfl
theorem zr_56_52 : z_co 56 52 = (.aload_n 0, 1, 0, 0, []) := rfl
theorem zr_56_53 : z_co 56 53 = (.getfield 26, 3, 7, 4, [307]) := rfl
theorem zr_56_56 : z_co 56 56 = (.iload 6, 2, 0, 0, []) := rfl
theorem zr_56_58 : z_co 56 58 = (.iconst 1, 1, 0, 0, []) := rfl
theorem zr_56_59 : z_co 56 59 = (.isub, 1, 0, 0, []) := rfl
theorem zr_56_60 : z_co 56 60 = (.iaload, 1, 0, 0, []) := rfl
theorem zr_56_61 : z_co 56 61 = (.invokevirtual 92, 3, 51, 0, [862, 864, 29]) := rfl
theorem zr_56_64 : z_co 56 64 = (.iload_n 3, 1, 0, 0, []) := rfl
theorem zr_56_65 : z_co 56 65 = (.iand, 1, 0, 0, []) := rfl
theorem zr_56_66 : z_co 56 66 = (.iload 4, 2, 0, 0, []) := rfl
theorem zr_56_68 : z_co 56 68 = (.iconst (-1), 1, 0, 0, []) := rfl
theorem zr_56_69 : z_co 56 69 = (.ixor, 1, 0, 0, []) := rfl
theorem zr_56_70 : z_co 56 70 = (.iand, 1, 0, 0, []) := rfl
theorem zr_56_71 : z_co 56 71 = (.iastore, 1, 0, 0, []) := rfl
theorem zr_56_72 : z_co 56 72 = (.iload 4, 2, 0, 0, []) := rfl
theorem zr_56_74 : z_co 56 74 = (.aload_n 0, 1, 0, 0, []) := rfl
theorem zr_56_75 : z_co 56 75 = (.getfield 26, 3, 7, 4, [307]) := rfl
theorem zr_56_78 : z_co 56 78 = (.iload 6, 2, 0, 0, []) := rfl
theorem zr_56_80 : z_co 56 80 = (.iaload, 1, 0, 0, []) := rfl
theorem zr_56_81 : z_co 56 81 = (.ior, 1, 0, 0, []) := rfl
theorem zr_56_82 : z_co 56 82 = (.istore 4, 2, 0, 0, []) := rfl
theorem zr_56_84 : z_co 56 84 = (.iload 6, 2, 0, 0, []) := rfl
theorem zr_56_86 : z_co 56 86 = (.istore 5, 2, 0, 0, []) := rfl
theorem zr_56_88 : z_co 56 88 = (.iinc 6 1, 3, 0, 0, []) := rfl
theorem zr_56_91 : z_co 56 91 = (.goto (-63), 3, 0, 0, []) := rfl
theorem zr_56_94 : z_co 56 94 = (.iload 4, 2, 0, 0, []) := rfl
theorem zr_56_96 : z_co 56 96 = (.iload_n 2, 1, 0, 0, []) := rfl
theorem zr_56_97 : z_co 56 97 = (.ishr, 1, 0, 0, []) := rfl
theorem zr_56_98 : z_co 56 98 = (.iconst 1, 1, 0, 0, []) := rfl
theorem zr_56_99 : z_co 56 99 = (.iand, 1, 0, 0, []) := rfl
theorem zr_56_100 : z_co 56 100 = (.ifCond .ne 5, 3, 0, 0, []) := rfl
theorem zr_56_103 : z_co 56 103 = (.iconst (-1), 1, 0, 0, []) := rfl
theorem zr_56_104 : z_co 56 104 = (.ireturn, 1, 0, 0, []) := rfl
theorem zr_56_105 : z_co 56 105 = (.aload_n 0, 1, 0, 0, []) := rfl
theorem zr_56_106 : z_co 56 106 = (.getfield 26, 3, 7, 4, [307]) := rfl
theorem zr_56_109 : z_co 56 109 = (.iload 5, 2, 0, 0, []) := rfl
theorem zr_56_111 : z_co 56 111 = (.iconst 1, 1, 0, 0, []) := rfl
theorem zr_56_112 : z_co 56 112 = (.iload_n 2, 1, 0, 0, []) := rfl
theorem zr_56_113 : z_co 56 113 = (.ishl, 1, 0, 0, []) := rfl
theorem zr_56_114 : z_co 56 114 = (.iastore, 1, 0, 0, []) := rfl
theorem zr_56_115 : z_co 56 115 = (.aload_n 0, 1, 0, 0, []) := rfl
theorem zr_56_116 : z_co 56 116 = (.iload_n 1, 1, 0, 0, []) := rfl
theorem zr_56_117 : z_co 56 117 = (.iload 5, 2, 0, 0, []) := rfl
theorem zr_56_119 : z_co 56 119 = (.invokevirtual 102, 3, 57, 0, [874, 876, 30]) := rfl
theorem zr_56_122 : z_co 56 122 = (.iconst 0, 1, 0, 0, []) := rfl
theorem zr_56_123 : z_co 56 123 = (.istore 6, 2, 0, 0, []) := rfl
theorem zr_56_125 : z_co 56 125 = (.iconst 1, 1, 0, 0, []) := rfl
theorem zr_56_126 : z_co 56 126 = (.istore 7, 2, 0, 0, []) := rfl
theorem zr_56_128 : z_co 56 128 = (.iload 7, 2, 0, 0, []) := rfl
theorem zr_56_130 : z_co 56 130 = (.iload 5, 2, 0, 0, []) := rfl
theorem zr_56_132 : z_co 56 132 = (.if_icmp .gt 48, 3, 0, 0, []) := rfl
theorem zr_56_135 : z_co 56 135 = (.iconst 0, 1, 0, 0, []) := rfl
theorem zr_56_136 : z_co 56 136 = (.aload_n 0, 1, 0, 0, []) := rfl
theorem zr_56_137 : z_co 56 137 = (.getfield 26, 3, 7, 4, [307]) := rfl
theorem zr_56_140 : z_co 56 140 = (.iload 7, 2, 0, 0, []) := rfl
theorem zr_56_142 : z_co 56 142 = (.iaload, 1, 0, 0, []) := rfl
theorem zr_56_143 : z_co 56 143 = (.aload_n 0, 1, 0, 0, []) := rfl
theorem zr_56_144 : z_co 56 144 = (.getfield 20, 3, 7, 2, [305]) := rfl
theorem zr_56_147 : z_co 56 147 = (.iload_n 1, 1, 0, 0, []) := rfl
theorem zr_56_148 : z_co 56 148 = (.aaload, 1, 0, 0, []) := rfl
theorem zr_56_149 : z_co 56 149 = (.iload 6, 2, 0, 0, []) := rfl
theorem zr_56_151 : z_co 56 151 = (.iaload, 1, 0, 0, []) := rfl
theorem zr_56_152 : z_co 56 152 = (.iand, 1, 0, 0, []) := rfl
theorem zr_56_153 : z_co 56 153 = (.invokestatic 95, 3, 52, 0, [878, 879]) := rfl
theorem zr_56_156 : z_co 56 156 = (.invokestatic 106, 3, 260, 0, [881, 610]) := rfl
theorem zr_56_159 : z_co 56 159 = (.istore 6, 2, 0, 0, []) := rfl
theorem zr_56_161 : z_co 56 161 = (.aload_n 0, 1, 0, 0, []) := rfl
theorem zr_56_162 : z_co 56 162 = (.getfield 32, 3, 7, 6, [311]) := rfl
theorem zr_56_165 : z_co 56 165 = (.iload 7, 2, 0, 0, []) := rfl
theorem zr_56_167 : z_co 56 167 = (.iconst 1, 1, 0, 0, []) := rfl
theorem zr_56_168 : z_co 56 168 = (.isub, 1, 0, 0, []) := rfl
theorem zr_56_169 : z_co 56 169 = (.iload 6, 2, 0, 0, []) := rfl
theorem zr_56_171 : z_co 56 171 = (.iconst 1, 1, 0, 0, []) := rfl
theorem zr_56_172 : z_co 56 172 = (.isub, 1, 0, 0, []) := rfl
theorem zr_56_173 : z_co 56 173 = (.iastore, 1, 0, 0, []) := rfl
theorem zr_56_174 : z_co 56 174 = (.iinc 7 1, 3, 0, 0, []) := rfl
theorem zr_56_177 : z_co 56 177 = (.goto (-49), 3, 0, 0, []) := rfl
theorem zr_56_180 : z_co 56 180 = (.iload 5, 2, 0, 0, []) := rfl
theorem zr_56_182 : z_co 56 182 = (.ireturn, 1, 0, 0, []) := rfl
theorem zr_57_0 : z_co 57 0 = (.iload_n 2, 1, 0, 0, []) := rfl
theorem zr_57_1 : z_co 57 1 = (.iconst 1, 1, 0, 0, []) := rfl
theorem zr_57_2 : z_co 57 2 = (.isub, 1, 0, 0, []) := rfl
theorem zr_57_3 : z_co 57 3 = (.istore_n 3, 1, 0, 0, []) := rfl
theorem zr_57_4 : z_co 57 4 = (.iload_n 3, 1, 0, 0, []) := rfl
theorem zr_57_5 : z_co 57 5 = (.ifCond .le 82, 3, 0, 0, []) := rfl
theorem zr_57_8 : z_co 57 8 = (.iconst 0, 1, 0, 0, []) := rfl
theorem zr_57_9 : z_co 57 9 = (.istore 4, 2, 0, 0, []) := rfl
theorem zr_57_11 : z_co 57 11 = (.iconst 0, 1, 0, 0, []) := rfl
theorem zr_57_12 : z_co 57 12 = (.istore 5, 2, 0, 0, []) := rfl
theorem zr_57_14 : z_co 57 14 = (.iload 5, 2, 0, 0, []) := rfl
theorem zr_57_16 : z_co 57 16 = (.aload_n 0, 1, 0, 0, []) := rfl
theorem zr_57_17 : z_co 57 17 = (.getfield 47, 3, 7, 8, [316]) := rfl
theorem zr_57_20 : z_co 57 20 = (.if_icmp .gt 53, 3, 0, 0, []) := rfl
theorem zr_57_23 : z_co 57 23 = (.aload_n 0, 1, 0, 0, []) := rfl
theorem zr_57_24 : z_co 57 24 = (.getfield 26, 3, 7, 4, [307]) := rfl
theorem zr_57_27 : z_co 57 27 = (.iload_n 3, 1, 0, 0, []) := rfl
theorem zr_57_28 : z_co 57 28 = (.iaload, 1, 0, 0, []) := rfl
theorem zr_57_29 : z_co 57 29 = (.iload 5, 2, 0, 0, []) := rfl
theorem zr_57_31 : z_co 57 31 = (.ishr, 1, 0, 0, []) := rfl
theorem zr_57_32 : z_co 57 32 = (.iconst 1, 1, 0, 0, []) := rfl
theorem zr_57_33 : z_co 57 33 = (.iand, 1, 0, 0, []) := rfl
theorem zr_57_34 : z_co 57 34 = (.ifCond .eq 33, 3, 0, 0, []) := rfl
theorem zr_57_37 : z_co 57 37 = (.aload_n 0, 1, 0, 0, []) := rfl
theorem zr_57_38 : z_co 57 38 = (.getfield 20, 3, 7, 2, [305]) := rfl
theorem zr_57_41 : z_co 57 41 = (.iload_n 1, 1, 0, 0, []) := rfl
theorem zr_57_42 : z_co 57 42 = (.aaload, 1, 0, 0, []) := rfl
theorem zr_57_43 : z_co 57 43 = (.iload 5, 2, 0, 0, []) := rfl
theorem zr_57_45 : z_co 57 45 = (.iaload, 1, 0, 0, []) := rfl
theorem zr_57_46 : z_co 57 46 = (.aload_n 0, 1, 0, 0, []) := rfl
theorem zr_57_47 : z_co 57 47 = (.getfield 26, 3, 7, 4, [307]) := rfl
theorem zr_57_50 : z_co 57 50 = (.iload_n 3, 1, 0, 0, []) := rfl
theorem zr_57_51 : z_co 57 51 = (.iconst 1, 1, 0, 0, []) := rfl
theorem zr_57_52 : z_co 57 52 = (.iadd, 1, 0, 0, []) := rfl
theorem zr_57_53 : z_co 57 53 = (.iaload, 1, 0, 0, []) := rfl
theorem zr_57_54 : z_co 57 54 = (.iand, 1, 0, 0, []) := rfl
theorem zr_57_55 : z_co 57 55 = (.ifCond .eq 12, 3, 0, 0, []) := rfl
theorem zr_57_58 : z_co 57 58 = (.iload 4, 2, 0, 0, []) := rfl
theorem zr_57_60 : z_co 57 60 = (.iconst 1, 1, 0, 0, []) := rfl
theorem zr_57_61 : z_co 57 61 = (.iload 5, 2, 0, 0, []) := rfl
theorem zr_57_63 : z_co 57 63 = (.ishl, 1, 0, 0, []) := rfl
theorem zr_57_64 : z_co 57 64 = (.ior, 1, 0, 0, []) := rfl
theorem zr_57_65 : z_co 57 65 = (.istore 4, 2, 0, 0, []) := rfl
theorem zr_57_67 : z_co 57 67 = (.iinc 5 1, 3, 0, 0, []) := rfl
theorem zr_57_70 : z_co 57 70 = (.goto (-56), 3, 0, 0, []) := rfl
theorem zr_57_73 : z_co 57 73 = (.aload_n 0, 1, 0, 0, []) := rfl
theorem zr_57_74 : z_co 57 74 = (.getfield 26, 3, 7, 4, [307]) := rfl
theorem zr_57_77 : z_co 57 77 = (.iload_n 3, 1, 0, 0, []) := rfl
theorem zr_57_78 : z_co 57 78 = (.iload 4, 2, 0, 0, []) := rfl
theorem zr_57_80 : z_co 57 80 = (.iastore, 1, 0, 0, []) := rfl
theorem zr_57_81 : z_co 57 81 = (.iinc 3 (-1), 3, 0, 0, []) := rfl
theorem zr_57_84 : z_co 57 84 = (.goto (-80), 3, 0, 0, []) := rfl
theorem zr_57_87 : z_co 57 87 = (.return_, 1, 0, 0, []) := rfl
theorem zr_58_0 : z_co 58 0 = (.aload_n 0, 1, 0, 0, []) := rfl
theorem zr_58_1 : z_co 58 1 = (.getfield 47, 3, 7, 8, [316]) := rfl
theorem zr_58_4 : z_co 58 4 = (.ifCond .ne 7, 3, 0, 0, []) := rfl
theorem zr_58_7 : z_co 58 7 = (.iconst (-1), 1, 0, 0, []) := rfl
theorem zr_58_8 : z_co 58 8 = (.goto 12, 3, 0, 0, []) := rfl
theorem zr_58_11 : z_co 58 11 = (.aload_n 0, 1, 0, 0, []) := rfl
theorem zr_58_12 : z_co 58 12 = (.iload_n 1, 1, 0, 0, []) := rfl
theorem zr_58_13 : z_co 58 13 = (.aload_n 0, 1, 0, 0, []) := rfl
theorem zr_58_14 : z_co 58 14 = (.getfield 47, 3, 7, 8, [316]) := rfl
theorem zr_58_17 : z_co 58 17 = (.invokevirtual 109, 3, 56, 0, [1083, 871, 872]) := rfl
theorem zr_58_20 : z_co 58 20 = (.istore_n 2, 1, 0, 0, []) := rfl
theorem zr_58_21 : z_co 58 21 = (.iload_n 2, 1, 0, 0, []) := rfl
theorem zr_58_22 : z_co 58 22 = (.iconst (-1), 1, 0, 0, []) := rfl
theorem zr_58_23 : z_co 58 23 = (.if_icmp .ne 5, 3, 0, 0, []) := rfl
theorem zr_58_26 : z_co 58 26 = (.iconst (-1), 1, 0, 0, []) := rfl
theorem zr_58_27 : z_co 58 27 = (.ireturn, 1, 0, 0, []) := rfl
theorem zr_58_28 : z_co 58 28 = (.iconst 0, 1, 0, 0, []) := rfl
theorem zr_58_29 : z_co 58 29 = (.istore_n 3, 1, 0, 0, []) := rfl
theorem zr_58_30 : z_co 58 30 = (.iconst 0, 1, 0, 0, []) := rfl
theorem zr_58_31 : z_co 58 31 = (.istore 4, 2, 0, 0, []) := rfl
theorem zr_58_33 : z_co 58 33 = (.iload 4, 2, 0, 0, []) := rfl
theorem zr_58_35 : z_co 58 35 = (.iload_n 2, 1, 0, 0, []) := rfl
theorem zr_58_36 : z_co 58 36 = (.if_icmp .ge 28, 3, 0, 0, []) := rfl
theorem zr_58_39 : z_co 58 39 = (.iload 4, 2, 0, 0, []) := rfl
theorem zr_58_41 : z_co 58 41 = (.bipush 12, 2, 0, 0, []) := rfl
theorem zr_58_43 : z_co 58 43 = (.if_icmp .ge 21, 3, 0, 0, []) := rfl
theorem zr_58_46 : z_co 58 46 = (.iload_n 3, 1, 0, 0, []) := rfl
theorem zr_58_47 : z_co 58 47 = (.iconst 1, 1, 0, 0, []) := rfl
theorem zr_58_48 : z_co 58 48 = (.aload_n 0, 1, 0, 0, []) := rfl
theorem zr_58_49 : z_co 58 49 = (.getfield 32, 3, 7, 6, [311]) := rfl
theorem zr_58_52 : z_co 58 52 = (.iload 4, 2, 0, 0, []) := rfl
theorem zr_58_54 : z_co 58 54 = (.iaload, 1, 0, 0, []) := rfl
theorem zr_58_55 : z_co 58 55 = (.ishl, 1, 0, 0, []) := rfl
theorem zr_58_56 : z_co 58 56 = (.ior, 1, 0, 0, []) := rfl
theorem zr_58_57 : z_co 58 57 = (.istore_n 3, 1, 0, 0, []) := rfl
theorem zr_58_58 : z_co 58 58 = (.iinc 4 1, 3, 0, 0, []) := rfl
theorem zr_58_61 : z_co 58 61 = (.goto (-28), 3, 0, 0, []) := rfl
theorem zr_58_64 : z_co 58 64 = (.iload_n 3, 1, 0, 0, []) := rfl
theorem zr_58_65 : z_co 58 65 = (.ireturn, 1, 0, 0, []) := rfl
theorem zr_59_0 : z_co 59 0 = (.iload_n 1, 1, 0, 0, []) := rfl
theorem zr_59_1 : z_co 59 1 = (.iconst 0, 1, 0, 0, []) := rfl
theorem zr_59_2 : z_co 59 2 = (.aload_n 0, 1, 0, 0, []) := rfl
theorem zr_59_3 : z_co 59 3 = (.getfield 51, 3, 7, 9, [318]) := rfl
theorem zr_59_6 : z_co 59 6 = (.iconst 1, 1, 0, 0, []) := rfl
theorem zr_59_7 : z_co 59 7 = (.isub, 1, 0, 0, []) := rfl
theorem zr_59_8 : z_co 59 8 = (.invokestatic 112, 3, 133, 1, [965, 497]) := rfl
theorem zr_59_11 : z_co 59 11 = (.ifCond .eq 17, 3, 0, 0, []) := rfl
theorem zr_59_14 : z_co 59 14 = (.iload_n 2, 1, 0, 0, []) := rfl
theorem zr_59_15 : z_co 59 15 = (.iconst 0, 1, 0, 0, []) := rfl
theorem zr_59_16 : z_co 59 16 = (.aload_n 0, 1, 0, 0, []) := rfl
theorem zr_59_17 : z_co 59 17 = (.getfield 47, 3, 7, 8, [316]) := rfl
theorem zr_59_20 : z_co 59 20 = (.iconst 1, 1, 0, 0, []) := rfl
theorem zr_59_21 : z_co 59 21 = (.isub, 1, 0, 0, []) := rfl
theorem zr_59_22 : z_co 59 22 = (.invokestatic 112, 3, 133, 1, [965, 497]) := rfl
theorem zr_59_25 : z_co 59 25 = (.ifCond .ne 5, 3, 0, 0, []) := rfl
theorem zr_59_28 : z_co 59 28 = (.iconst 0, 1, 0, 0, []) := rfl
theorem zr_59_29 : z_co 59 29 = (.ireturn, 1, 0, 0, []) := rfl
theorem zr_59_30 : z_co 59 30 = (.iload_n 2, 1, 0, 0, []) := rfl
theorem zr_59_31 : z_co 59 31 = (.iconst 1, 1, 0, 0, []) := rfl
theorem zr_59_32 : z_co 59 32 = (.iadd, 1, 0, 0, []) := rfl
theorem zr_59_33 : z_co 59 33 = (.istore_n 3, 1, 0, 0, []) := rfl
theorem zr_59_34 : z_co 59 34 = (.aload_n 0, 1, 0, 0, []) := rfl
theorem zr_59_35 : z_co 59 35 = (.getfield 54, 3, 7, 7, [314]) := rfl
theorem zr_59_38 : z_co 59 38 = (.iload_n 3, 1, 0, 0, []) := rfl
theorem zr_59_39 : z_co 59 39 = (.ishr, 1, 0, 0, []) := rfl
theorem zr_59_40 : z_co 59 40 = (.iconst 1, 1, 0, 0, []) := rfl
theorem zr_59_41 : z_co 59 41 = (.iand, 1, 0, 0, []) := rfl
theorem zr_59_42 : z_co 59 42 = (.ifCond .eq 11, 3, 0, 0, []) := rfl
theorem zr_59_45 : z_co 59 45 = (.aload_n 0, 1, 0, 0, []) := rfl
theorem zr_59_46 : z_co 59 46 = (.iload_n 3, 1, 0, 0, []) := rfl
theorem zr_59_47 : z_co 59 47 = (.invokevirtual 116, 3, 60, 0, [970, 972, 35]) := rfl
theorem zr_59_50 : z_co 59 50 = (.ifCond .eq 5, 3, 0, 0, []) := rfl
theorem zr_59_53 : z_co 59 53 = (.iconst 0, 1, 0, 0, []) := rfl
theorem zr_59_54 : z_co 59 54 = (.ireturn, 1, 0, 0, []) := rfl
theorem zr_59_55 : z_co 59 55 = (.aload_n 0, 1, 0, 0, []) := rfl
theorem zr_59_56 : z_co 59 56 = (.iload_n 1, 1, 0, 0, []) := rfl
theorem zr_59_57 : z_co 59 57 = (.aload_n 0, 1, 0, 0, []) := rfl
theorem zr_59_58 : z_co 59 58 = (.getfield 29, 3, 7, 5, [308]) := rfl
theorem zr_59_61 : z_co 59 61 = (.iload_n 1, 1, 0, 0, []) := rfl
theorem zr_59_62 : z_co 59 62 = (.iaload, 1, 0, 0, []) := rfl
theorem zr_59_63 : z_co 59 63 = (.aload_n 0, 1, 0, 0, []) := rfl
theorem zr_59_64 : z_co 59 64 = (.getfield 23, 3, 7, 3, [306]) := rfl
theorem zr_59_67 : z_co 59 67 = (.iload_n 1, 1, 0, 0, []) := rfl
theorem zr_59_68 : z_co 59 68 = (.aaload, 1, 0, 0, []) := rfl
theorem zr_59_69 : z_co 59 69 = (.iload_n 3, 1, 0, 0, []) := rfl
theorem zr_59_70 : z_co 59 70 = (.iaload, 1, 0, 0, []) := rfl
theorem zr_59_71 : z_co 59 71 = (.invokevirtual 98, 3, 54, 0, [906, 907, 908]) := rfl
theorem zr_59_74 : z_co 59 74 = (.istore 4, 2, 0, 0, []) := rfl
theorem zr_59_76 : z_co 59 76 = (.iload 4, 2, 0, 0, []) := rfl
theorem zr_59_78 : z_co 59 78 = (.iconst (-1), 1, 0, 0, []) := rfl
theorem zr_59_79 : z_co 59 79 = (.if_icmp .ne 5, 3, 0, 0, []) := rfl
theorem zr_59_82 : z_co 59 82 = (.iconst 0, 1, 0, 0, []) := rfl
theorem zr_59_83 : z_co 59 83 = (.ireturn, 1, 0, 0, []) := rfl
theorem zr_59_84 : z_co 59 84 = (.aload_n 0, 1, 0, 0, []) := rfl
theorem zr_59_85 : z_co 59 85 = (.getfield 29, 3, 7, 5, [308]) := rfl
theorem zr_59_88 : z_co 59 88 = (.iload_n 1, 1, 0, 0, []) := rfl
theorem zr_59_89 : z_co 59 89 = (.iload 4, 2, 0, 0, []) := rfl
theorem zr_59_91 : z_co 59 91 = (.iastore, 1, 0, 0, []) := rfl
theorem zr_59_92 : z_co 59 92 = (.aload_n 0, 1, 0, 0, []) := rfl
theorem zr_59_93 : z_co 59 93 = (.dup, 1, 0, 0, []) := rfl
theorem zr_59_94 : z_co 59 94 = (.getfield 54, 3, 7, 7, [314]) := rfl
theorem zr_59_97 : z_co 59 97 = (.iconst 1, 1, 0, 0, []) := rfl
theorem zr_59_98 : z_co 59 98 = (.iload_n 3, 1, 0, 0, []) := rfl
theorem zr_59_99 : z_co 59 99 = (.ishl, 1, 0, 0, []) := rfl
theorem zr_59_100 : z_co 59 100 = (.iconst (-1), 1, 0, 0, []) := rfl
theorem zr_59_101 : z_co 59 101 = (.ixor, 1, 0, 0, []) := rfl
theorem zr_59_102 : z_co 59 102 = (.iand, 1, 0, 0, []) := rfl
theorem zr_59_103 : z_co 59 103 = (.putfield 54, 3, 7, 7, [314]) := rfl
theorem zr_59_106 : z_co 59 106 = (.iconst 1, 1, 0, 0, []) := rfl
theorem zr_59_107 : z_co 59 107 = (.ireturn, 1, 0, 0, []) := rfl
theorem zr_60_0 : z_co 60 0 = (.iconst 0, 1, 0, 0, []) := rfl
theorem zr_60_1 : z_co 60 1 = (.istore_n 2, 1, 0, 0, []) := rfl
theorem zr_60_2 : z_co 60 2 = (.iload_n 2, 1, 0, 0, []) := rfl
theorem zr_60_3 : z_co 60 3 = (.aload_n 0, 1, 0, 0, []) := rfl
theorem zr_60_4 : z_co 60 4 = (.getfield 51, 3, 7, 9, [318]) := rfl
theorem zr_60_7 : z_co 60 7 = (.if_icmp .ge 21, 3, 0, 0, []) := rfl
theorem zr_60_10 : z_co 60 10 = (.aload_n 0, 1, 0, 0, []) := rfl
theorem zr_60_11 : z_co 60 11 = (.getfield 29, 3, 7, 5, [308]) := rfl
theorem zr_60_14 : z_co 60 14 = (.iload_n 2, 1, 0, 0, []) := rfl
theorem zr_60_15 : z_co 60 15 = (.iaload, 1, 0, 0, []) := rfl
theorem zr_60_16 : z_co 60 16 = (.iload_n 1, 1, 0, 0, []) := rfl
theorem zr_60_17 : z_co 60 17 = (.if_icmp .ne 5, 3, 0, 0, []) := rfl
theorem zr_60_20 : z_co 60 20 = (.iconst 1, 1, 0, 0, []) := rfl
theorem zr_60_21 : z_co 60 21 = (.ireturn, 1, 0, 0, []) := rfl
theorem zr_60_22 : z_co 60 22 = (.iinc 2 1, 3, 0, 0, []) := rfl
theorem zr_60_25 : z_co 60 25 = (.goto (-23), 3, 0, 0, []) := rfl
theorem zr_60_28 : z_co 60 28 = (.iconst 0, 1, 0, 0, []) := rfl
theorem zr_60_29 : z_co 60 29 = (.ireturn, 1, 0, 0, []) := rfl
theorem zr_61_0 : z_co 61 0 = (.iconst 0, 1, 0, 0, []) := rfl
theorem zr_61_1 : z_co 61 1 = (.istore_n 3, 1, 0, 0, []) := rfl
theorem zr_61_2 : z_co 61 2 = (.iconst 0, 1, 0, 0, []) := rfl
theorem zr_61_3 : z_co 61 3 = (.istore 4, 2, 0, 0, []) := rfl
theorem zr_61_5 : z_co 61 5 = (.iload 4, 2, 0, 0, []) := rfl
theorem zr_61_7 : z_co 61 7 = (.aload_n 1, 1, 0, 0, []) := rfl
theorem zr_61_8 : z_co 61 8 = (.getfield 119, 3, 10, 11, [178]) := rfl
theorem zr_61_11 : z_co 61 11 = (.if_icmp .ge 60, 3, 0, 0, []) := rfl
theorem zr_61_14 : z_co 61 14 = (.aload_n 1, 1, 0, 0, []) := rfl
theorem zr_61_15 : z_co 61 15 = (.getfield 122, 3, 10, 4, [159]) := rfl
theorem zr_61_18 : z_co 61 18 = (.iconst 1, 1, 0, 0, []) := rfl
theorem zr_61_19 : z_co 61 19 = (.aaload, 1, 0, 0, []) := rfl
theorem zr_61_20 : z_co 61 20 = (.iload 4, 2, 0, 0, []) := rfl
theorem zr_61_22 : z_co 61 22 = (.iaload, 1, 0, 0, []) := rfl
theorem zr_61_23 : z_co 61 23 = (.istore 5, 2, 0, 0, []) := rfl
theorem zr_61_25 : z_co 61 25 = (.iload 5, 2, 0, 0, []) := rfl
theorem zr_61_27 : z_co 61 27 = (.iconst 0, 1, 0, 0, []) := rfl
theorem zr_61_28 : z_co 61 28 = (.aload_n 2, 1, 0, 0, []) := rfl
theorem zr_61_29 : z_co 61 29 = (.arraylength, 1, 0, 0, []) := rfl
theorem zr_61_30 : z_co 61 30 = (.iconst 1, 1, 0, 0, []) := rfl
theorem zr_61_31 : z_co 61 31 = (.isub, 1, 0, 0, []) := rfl
theorem zr_61_32 : z_co 61 32 = (.invokestatic 112, 3, 133, 1, [965, 497]) := rfl
theorem zr_61_35 : z_co 61 35 = (.ifCond .eq 30, 3, 0, 0, []) := rfl
theorem zr_61_38 : z_co 61 38 = (.aload_n 0, 1, 0, 0, []) := rfl
theorem zr_61_39 : z_co 61 39 = (.aload_n 1, 1, 0, 0, []) := rfl
theorem zr_61_40 : z_co 61 40 = (.getfield 122, 3, 10, 4, [159]) := rfl
theorem zr_61_43 : z_co 61 43 = (.iconst 0, 1, 0, 0, []) := rfl
theorem zr_61_44 : z_co 61 44 = (.aaload, 1, 0, 0, []) := rfl
theorem zr_61_45 : z_co 61 45 = (.iload 4, 2, 0, 0, []) := rfl
theorem zr_61_47 : z_co 61 47 = (.iaload, 1, 0, 0, []) := rfl
theorem zr_61_48 : z_co 61 48 = (.aload_n 2, 1, 0, 0, []) := rfl
theorem zr_61_49 : z_co 61 49 = (.iload 5, 2, 0, 0, []) := rfl
theorem zr_61_51 : z_co 61 51 = (.iaload, 1, 0, 0, []) := rfl
theorem zr_61_52 : z_co 61 52 = (.invokevirtual 125, 3, 59, 0, [966, 967, 968]) := rfl
theorem zr_61_55 : z_co 61 55 = (.ifCond .eq 10, 3, 0, 0, []) := rfl
theorem zr_61_58 : z_co 61 58 = (.iload_n 3, 1, 0, 0, []) := rfl
theorem zr_61_59 : z_co 61 59 = (.iconst 1, 1, 0, 0, []) := rfl
theorem zr_61_60 : z_co 61 60 = (.iload 4, 2, 0, 0, []) := rfl
theorem zr_61_62 : z_co 61 62 = (.ishl, 1, 0, 0, []) := rfl
theorem zr_61_63 : z_co 61 63 = (.ior, 1, 0, 0, []) := rfl
theorem zr_61_64 : z_co 61 64 = (.istore_n 3, 1, 0, 0, []) := rfl
theorem zr_61_65 : z_co 61 65 = (.iinc 4 1, 3, 0, 0, []) := rfl
theorem zr_61_68 : z_co 61 68 = (.goto (-63), 3, 0, 0, []) := rfl
theorem zr_61_71 : z_co 61 71 = (.iload_n 3, 1, 0, 0, []) := rfl
theorem zr_61_72 : z_co 61 72 = (.ireturn, 1, 0, 0, []) := rfl
theorem zr_62_0 : z_co 62 0 = (.iconst 0, 1, 0, 0, []) := rfl
theorem zr_62_1 : z_co 62 1 = (.istore_n 1, 1, 0, 0, []) := rfl
theorem zr_62_2 : z_co 62 2 = (.iconst 0, 1, 0, 0, []) := rfl
theorem zr_62_3 : z_co 62 3 = (.istore_n 2, 1, 0, 0, []) := rfl
theorem zr_62_4 : z_co 62 4 = (.iload_n 2, 1, 0, 0, []) := rfl
theorem zr_62_5 : z_co 62 5 = (.aload_n 0, 1, 0, 0, []) := rfl
theorem zr_62_6 : z_co 62 6 = (.getfield 51, 3, 7, 9, [318]) := rfl
theorem zr_62_9 : z_co 62 9 = (.if_icmp .ge 40, 3, 0, 0, []) := rfl
theorem zr_62_12 : z_co 62 12 = (.aload_n 0, 1, 0, 0, []) := rfl
theorem zr_62_13 : z_co 62 13 = (.getfield 29, 3, 7, 5, [308]) := rfl
theorem zr_62_16 : z_co 62 16 = (.iload_n 2, 1, 0, 0, []) := rfl
theorem zr_62_17 : z_co 62 17 = (.iaload, 1, 0, 0, []) := rfl
theorem zr_62_18 : z_co 62 18 = (.ifCond .eq 25, 3, 0, 0, []) := rfl
theorem zr_62_21 : z_co 62 21 = (.aload_n 0, 1, 0, 0, []) := rfl
theorem zr_62_22 : z_co 62 22 = (.iload_n 2, 1, 0, 0, []) := rfl
theorem zr_62_23 : z_co 62 23 = (.aload_n 0, 1, 0, 0, []) := rfl
theorem zr_62_24 : z_co 62 24 = (.getfield 29, 3, 7, 5, [308]) := rfl
theorem zr_62_27 : z_co 62 27 = (.iload_n 2, 1, 0, 0, []) := rfl
theorem zr_62_28 : z_co 62 28 = (.iaload, 1, 0, 0, []) := rfl
theorem zr_62_29 : z_co 62 29 = (.iconst 1, 1, 0, 0, []) := rfl
theorem zr_62_30 : z_co 62 30 = (.invokevirtual 98, 3, 54, 0, [906, 907, 908]) := rfl
theorem zr_62_33 : z_co 62 33 = (.iconst (-1), 1, 0, 0, []) := rfl
theorem zr_62_34 : z_co 62 34 = (.if_icmp .ne 9, 3, 0, 0, []) := rfl
theorem zr_62_37 : z_co 62 37 = (.iload_n 1, 1, 0, 0, []) := rfl
theorem zr_62_38 : z_co 62 38 = (.iconst 1, 1, 0, 0, []) := rfl
theorem zr_62_39 : z_co 62 39 = (.iload_n 2, 1, 0, 0, []) := rfl
theorem zr_62_40 : z_co 62 40 = (.ishl, 1, 0, 0, []) := rfl
theorem zr_62_41 : z_co 62 41 = (.ior, 1, 0, 0, []) := rfl
theorem zr_62_42 : z_co 62 42 = (.istore_n 1, 1, 0, 0, []) := rfl
theorem zr_62_43 : z_co 62 43 = (.iinc 2 1, 3, 0, 0, []) := rfl
theorem zr_62_46 : z_co 62 46 = (.goto (-42), 3, 0, 0, []) := rfl
theorem zr_62_49 : z_co 62 49 = (.iload_n 1, 1, 0, 0, []) := rfl
theorem zr_62_50 : z_co 62 50 = (.ireturn, 1, 0, 0, []) := rfl
theorem zr_63_0 : z_co 63 0 = (.aload_n 0, 1, 0, 0, []) := rfl
theorem zr_63_1 : z_co 63 1 = (.getfield 54, 3, 7, 7, [314]) := rfl
theorem zr_63_4 : z_co 63 4 = (.iconst 1, 1, 0, 0, []) := rfl
theorem zr_63_5 : z_co 63 5 = (.ishr, 1, 0, 0, []) := rfl
theorem zr_63_6 : z_co 63 6 = (.ireturn, 1, 0, 0, []) := rfl
theorem zr_64_0 : z_co 64 0 = (.aload_n 0, 1, 0, 0, []) := rfl
theorem zr_64_1 : z_co 64 1 = (.getfield 54, 3, 7, 7, [314]) := rfl
theorem zr_64_4 : z_co 64 4 = (.iconst 1, 1, 0, 0, []) := rfl
theorem zr_64_5 : z_co 64 5 = (.ishr, 1, 0, 0, []) := rfl
theorem zr_64_6 : z_co 64 6 = (.iconst (-1), 1, 0, 0, []) := rfl
theorem zr_64_7 : z_co 64 7 = (.ixor, 1, 0, 0, []) := rfl
theorem zr_64_8 : z_co 64 8 = (.iconst 1, 1, 0, 0, []) := rfl
theorem zr_64_9 : z_co 64 9 = (.aload_n 0, 1, 0, 0, []) := rfl
theorem zr_64_10 : z_co 64 10 = (.getfield 47, 3, 7, 8, [316]) := rfl
theorem zr_64_13 : z_co 64 13 = (.ishl, 1, 0, 0, []) := rfl
theorem zr_64_14 : z_co 64 14 = (.iconst 1, 1, 0, 0, []) := rfl
theorem zr_64_15 : z_co 64 15 = (.isub, 1, 0, 0, []) := rfl
theorem zr_64_16 : z_co 64 16 = (.iand, 1, 0, 0, []) := rfl
theorem zr_64_17 : z_co 64 17 = (.ireturn, 1, 0, 0, []) := rfl
theorem zr_65_0 : z_co 65 0 = (.aload_n 0, 1, 0, 0, []) := rfl
theorem zr_65_1 : z_co 65 1 = (.invokespecial 3, 3, 1000, 0, [370, 131, 132]) := rfl
theorem zr_65_4 : z_co 65 4 = (.aload_n 0, 1, 0, 0, []) := rfl
theorem zr_65_5 : z_co 65 5 = (.bipush 7, 2, 0, 0, []) := rfl
theorem zr_65_7 : z_co 65 7 = (.newarray .int, 2, 0, 0, []) := rfl
theorem zr_65_9 : z_co 65 9 = (.putfield 9, 3, 8, 0, [371]) := rfl
theorem zr_65_12 : z_co 65 12 = (.return_, 1, 0, 0, []) := rfl
theorem zr_66_0 : z_co 66 0 = (.aload_n 0, 1, 0, 0, []) := rfl
theorem zr_66_1 : z_co 66 1 = (.iconst (-1), 1, 0, 0, []) := rfl
theorem zr_66_2 : z_co 66 2 = (.putfield 15, 3, 8, 2, [376]) := rfl
theorem zr_66_5 : z_co 66 5 = (.aload_n 0, 1, 0, 0, []) := rfl
theorem zr_66_6 : z_co 66 6 = (.iconst 0, 1, 0, 0, []) := rfl
theorem zr_66_7 : z_co 66 7 = (.putfield 19, 3, 8, 3, [377]) := rfl
theorem zr_66_10 : z_co 66 10 = (.aload_n 0, 1, 0, 0, []) := rfl
theorem zr_66_11 : z_co 66 11 = (.iconst 0, 1, 0, 0, []) := rfl
theorem zr_66_12 : z_co 66 12 = (.putfield 22, 3, 8, 4, [378]) := rfl
theorem zr_66_15 : z_co 66 15 = (.aload_n 0, 1, 0, 0, []) := rfl
theorem zr_66_16 : z_co 66 16 = (.iconst 1, 1, 0, 0, []) := rfl
theorem zr_66_17 : z_co 66 17 = (.putfield 25, 3, 8, 1, [374]) := rfl
theorem zr_66_20 : z_co 66 20 = (.return_, 1, 0, 0, []) := rfl
theorem zr_67_0 : z_co 67 0 = (.iload_n 1, 1, 0, 0, []) := rfl
theorem zr_67_1 : z_co 67 1 = (.aload_n 0, 1, 0, 0, []) := rfl
theorem zr_67_2 : z_co 67 2 = (.getfield 15, 3, 8, 2, [376]) := rfl
theorem zr_67_5 : z_co 67 5 = (.if_icmp .lt 7, 3, 0, 0, []) := rfl
theorem zr_67_8 : z_co 67 8 = (.iconst 1, 1, 0, 0, []) := rfl
theorem zr_67_9 : z_co 67 9 = (.goto 4, 3, 0, 0, []) := rfl
theorem zr_67_12 : z_co 67 12 = (.iconst 0, 1, 0, 0, []) := rfl
theorem zr_67_13 : z_co 67 13 = (.ireturn, 1, 0, 0, []) := rfl
theorem zr_68_0 : z_co 68 0 = (.iload_n 1, 1, 0, 0, []) := rfl
theorem zr_68_1 : z_co 68 1 = (.aload_n 0, 1, 0, 0, []) := rfl
theorem zr_68_2 : z_co 68 2 = (.getfield 15, 3, 8, 2, [376]) := rfl
theorem zr_68_5 : z_co 68 5 = (.if_icmp .gt 19, 3, 0, 0, []) := rfl
theorem zr_68_8 : z_co 68 8 = (.iload_n 1, 1, 0, 0, []) := rfl
theorem zr_68_9 : z_co 68 9 = (.aload_n 0, 1, 0, 0, []) := rfl
theorem zr_68_10 : z_co 68 10 = (.getfield 15, 3, 8, 2, [376]) := rfl
theorem zr_68_13 : z_co 68 13 = (.if_icmp .ne 46, 3, 0, 0, []) := rfl
theorem zr_68_16 : z_co 68 16 = (.iload_n 2, 1, 0, 0, []) := rfl
theorem zr_68_17 : z_co 68 17 = (.aload_n 0, 1, 0, 0, []) := rfl
theorem zr_68_18 : z_co 68 18 = (.getfield 19, 3, 8, 3, [377]) := rfl
theorem zr_68_21 : z_co 68 21 = (.if_icmp .ge 38, 3, 0, 0, []) := rfl
theorem zr_68_24 : z_co 68 24 = (.aload_n 0, 1, 0, 0, []) := rfl
theorem zr_68_25 : z_co 68 25 = (.iload_n 1, 1, 0, 0, []) := rfl
theorem zr_68_26 : z_co 68 26 = (.putfield 15, 3, 8, 2, [376]) := rfl
theorem zr_68_29 : z_co 68 29 = (.aload_n 0, 1, 0, 0, []) := rfl
theorem zr_68_30 : z_co 68 30 = (.iload_n 2, 1, 0, 0, []) := rfl
theorem zr_68_31 : z_co 68 31 = (.putfield 19, 3, 8, 3, [377]) := rfl
theorem zr_68_34 : z_co 68 34 = (.aload_n 0, 1, 0, 0, []) := rfl
theorem zr_68_35 : z_co 68 35 = (.iconst 0, 1, 0, 0, []) := rfl
theorem zr_68_36 : z_co 68 36 = (.putfield 22, 3, 8, 4, [378]) := rfl
theorem zr_68_39 : z_co 68 39 = (.aload_n 3, 1, 0, 0, []) := rfl
theorem zr_68_40 : z_co 68 40 = (.iconst 0, 1, 0, 0, []) := rfl
theorem zr_68_41 : z_co 68 41 = (.aload_n 0, 1, 0, 0, []) := rfl
theorem zr_68_42 : z_co 68 42 = (.getfield 9, 3, 8, 0, [371]) := rfl
theorem zr_68_45 : z_co 68 45 = (.iconst 0, 1, 0, 0, []) := rfl
theorem zr_68_46 : z_co 68 46 = (.aload_n 3, 1, 0, 0, []) := rfl
theorem zr_68_47 : z_co 68 47 = (.arraylength, 1, 0, 0, []) := rfl
theorem zr_68_48 : z_co 68 48 = (.aload_n 0, 1, 0, 0, []) := rfl
theorem zr_68_49 : z_co 68 49 = (.getfield 9, 3, 8, 0, [371]) := rfl
theorem zr_68_52 : z_co 68 52 = (.arraylength, 1, 0, 0, []) := rfl
theorem zr_68_53 : z_co 68 53 = (.invokestatic 29, 3, 261, 0, [1009, 599]) := rfl
theorem zr_68_56 : z_co 68 56 = (.invokestatic 35, 3, 1001, 0, [1010, 754, 753, 123]) := rfl
theorem zr_68_59 : z_co 68 59 = (.iload_n 1, 1, 0, 0, []) := rfl
theorem zr_68_60 : z_co 68 60 = (.aload_n 0, 1, 0, 0, []) := rfl
theorem zr_68_61 : z_co 68 61 = (.getfield 15, 3, 8, 2, [376]) := rfl
theorem zr_68_64 : z_co 68 64 = (.if_icmp .ne 21, 3, 0, 0, []) := rfl
theorem zr_68_67 : z_co 68 67 = (.iload_n 2, 1, 0, 0, []) := rfl
theorem zr_68_68 : z_co 68 68 = (.aload_n 0, 1, 0, 0, []) := rfl
theorem zr_68_69 : z_co 68 69 = (.getfield 19, 3, 8, 3, [377]) := rfl
theorem zr_68_72 : z_co 68 72 = (.if_icmp .ne 13, 3, 0, 0, []) := rfl
theorem zr_68_75 : z_co 68 75 = (.aload_n 0, 1, 0, 0, []) := rfl
theorem zr_68_76 : z_co 68 76 = (.dup, 1, 0, 0, []) := rfl
theorem zr_68_77 : z_co 68 77 = (.getfield 22, 3, 8, 4, [378]) := rfl
theorem zr_68_80 : z_co 68 80 = (.iconst 1, 1, 0, 0, []) := rfl
theorem zr_68_81 : z_co 68 81 = (.iadd, 1, 0, 0, []) := rfl
theorem zr_68_82 : z_co 68 82 = (.putfield 22, 3, 8, 4, [378]) := rfl
theorem zr_68_85 : z_co 68 85 = (.return_, 1, 0, 0, []) := rfl
theorem zr_69_0 : z_co 69 0 = (.iload_n 1, 1, 0, 0, []) := rfl
theorem zr_69_1 : z_co 69 1 = (.tableswitch 42 0 2 #[27, 32, 37], 27, 0, 0, []) := rfl
theorem zr_69_28 : z_co 69 28 = (.aload_n 0, 1, 0, 0, []) := rfl
theorem zr_69_29 : z_co 69 29 = (.getfield 15, 3, 8, 2, [376]) := rfl
theorem zr_69_32 : z_co 69 32 = (.ireturn, 1, 0, 0, []) := rfl
theorem zr_69_33 : z_co 69 33 = (.aload_n 0, 1, 0, 0, []) := rfl
theorem zr_69_34 : z_co 69 34 = (.getfield 19, 3, 8, 3, [377]) := rfl
theorem zr_69_37 : z_co 69 37 = (.ireturn, 1, 0, 0, []) := rfl
theorem zr_69_38 : z_co 69 38 = (.aload_n 0, 1, 0, 0, []) := rfl
theorem zr_69_39 : z_co 69 39 = (.getfield 22, 3, 8, 4, [378]) := rfl
theorem zr_69_42 : z_co 69 42 = (.ireturn, 1, 0, 0, []) := rfl
theorem zr_69_43 : z_co 69 43 = (.iload_n 1, 1, 0, 0, []) := rfl
theorem zr_69_44 : z_co 69 44 = (.iconst 2, 1, 0, 0, []) := rfl
theorem zr_69_45 : z_co 69 45 = (.if_icmp .le 25, 3, 0, 0, []) := rfl
theorem zr_69_48 : z_co 69 48 = (.iload_n 1, 1, 0, 0, []) := rfl
theorem zr_69_49 : z_co 69 49 = (.iconst 3, 1, 0, 0, []) := rfl
theorem zr_69_50 : z_co 69 50 = (.isub, 1, 0, 0, []) := rfl
theorem zr_69_51 : z_co 69 51 = (.iload_n 2, 1, 0, 0, []) := rfl
theorem zr_69_52 : z_co 69 52 = (.if_icmp .ge 18, 3, 0, 0, []) := rfl
theorem zr_69_55 : z_co 69 55 = (.iload_n 1, 1, 0, 0, []) := rfl
theorem zr_69_56 : z_co 69 56 = (.iconst 3, 1, 0, 0, []) := rfl
theorem zr_69_57 : z_co 69 57 = (.isub, 1, 0, 0, []) := rfl
theorem zr_69_58 : z_co 69 58 = (.aload_n 0, 1, 0, 0, []) := rfl
theorem zr_69_59 : z_co 69 59 = (.getfield 9, 3, 8, 0, [371]) := rfl
theorem zr_69_62 : z_co 69 62 = (.arraylength, 1, 0, 0, []) := rfl
theorem zr_69_63 : z_co 69 63 = (.if_icmp .ge 7, 3, 0, 0, []) := rfl
theorem zr_69_66 : z_co 69 66 = (.iconst 1, 1, 0, 0, []) := rfl
theorem zr_69_67 : z_co 69 67 = (.goto 4, 3, 0, 0, []) := rfl
theorem zr_69_70 : z_co 69 70 = (.iconst 0, 1, 0, 0, []) := rfl
theorem zr_69_71 : z_co 69 71 = (.istore_n 3, 1, 0, 0, []) := rfl
theorem zr_69_72 : z_co 69 72 = (.iload_n 3, 1, 0, 0, []) := rfl
theorem zr_69_73 : z_co 69 73 = (.ifCond .eq 14, 3, 0, 0, []) := rfl
theorem zr_69_76 : z_co 69 76 = (.aload_n 0, 1, 0, 0, []) := rfl
theorem zr_69_77 : z_co 69 77 = (.getfield 9, 3, 8, 0, [371]) := rfl
theorem zr_69_80 : z_co 69 80 = (.iload_n 1, 1, 0, 0, []) := rfl
theorem zr_69_81 : z_co 69 81 = (.iconst 3, 1, 0, 0, []) := rfl
theorem zr_69_82 : z_co 69 82 = (.isub, 1, 0, 0, []) := rfl
theorem zr_69_83 : z_co 69 83 = (.iaload, 1, 0, 0, []) := rfl
theorem zr_69_84 : z_co 69 84 = (.goto 4, 3, 0, 0, []) := rfl
theorem zr_69_87 : z_co 69 87 = (.iconst (-1), 1, 0, 0, []) := rfl
theorem zr_69_88 : z_co 69 88 = (.ireturn, 1, 0, 0, []) := rfl
theorem zr_70_0 : z_co 70 0 = (.aload_n 0, 1, 0, 0, []) := rfl
theorem zr_70_1 : z_co 70 1 = (.invokespecial 3, 3, 1000, 0, [216, 131, 132]) := rfl
theorem zr_70_4 : z_co 70 4 = (.aload_n 0, 1, 0, 0, []) := rfl
theorem zr_70_5 : z_co 70 5 = (.sipush 400, 3, 0, 0, []) := rfl
theorem zr_70_8 : z_co 70 8 = (.newarray .int, 2, 0, 0, []) := rfl
theorem zr_70_10 : z_co 70 10 = (.putfield 9, 3, 9, 0, [217]) := rfl
theorem zr_70_13 : z_co 70 13 = (.return_, 1, 0, 0, []) := rfl
theorem zr_71_0 : z_co 71 0 = (.bipush 24, 2, 0, 0, []) := rfl
theorem zr_71_2 : z_co 71 2 = (.istore_n 2, 1, 0, 0, []) := rfl
theorem zr_71_3 : z_co 71 3 = (.iload_n 2, 1, 0, 0, []) := rfl
theorem zr_71_4 : z_co 71 4 = (.ifCond .lt 45, 3, 0, 0, []) := rfl
theorem zr_71_7 : z_co 71 7 = (.aload_n 0, 1, 0, 0, []) := rfl
theorem zr_71_8 : z_co 71 8 = (.getfield 15, 3, 9, 1, [220]) := rfl
theorem zr_71_11 : z_co 71 11 = (.sipush 400, 3, 0, 0, []) := rfl
theorem zr_71_14 : z_co 71 14 = (.if_icmp .ge 35, 3, 0, 0, []) := rfl
theorem zr_71_17 : z_co 71 17 = (.aload_n 0, 1, 0, 0, []) := rfl
theorem zr_71_18 : z_co 71 18 = (.getfield 9, 3, 9, 0, [217]) := rfl
theorem zr_71_21 : z_co 71 21 = (.aload_n 0, 1, 0, 0, []) := rfl
theorem zr_71_22 : z_co 71 22 = (.getfield 15, 3, 9, 1, [220]) := rfl
theorem zr_71_25 : z_co 71 25 = (.iload_n 1, 1, 0, 0, []) := rfl
theorem zr_71_26 : z_co 71 26 = (.iload_n 2, 1, 0, 0, []) := rfl
theorem zr_71_27 : z_co 71 27 = (.ishr, 1, 0, 0, []) := rfl
theorem zr_71_28 : z_co 71 28 = (.sipush 255, 3, 0, 0, []) := rfl
theorem zr_71_31 : z_co 71 31 = (.iand, 1, 0, 0, []) := rfl
theorem zr_71_32 : z_co 71 32 = (.iastore, 1, 0, 0, []) := rfl
theorem zr_71_33 : z_co 71 33 = (.aload_n 0, 1, 0, 0, []) := rfl
theorem zr_71_34 : z_co 71 34 = (.dup, 1, 0, 0, []) := rfl
theorem zr_71_35 : z_co 71 35 = (.getfield 15, 3, 9, 1, [220]) := rfl
theorem zr_71_38 : z_co 71 38 = (.iconst 1, 1, 0, 0, []) := rfl
theorem zr_71_39 : z_co 71 39 = (.iadd, 1, 0, 0, []) := rfl
theorem zr_71_40 : z_co 71 40 = (.putfield 15, 3, 9, 1, [220]) := rfl
theorem zr_71_43 : z_co 71 43 = (.iinc 2 (-8), 3, 0, 0, []) := rfl
theorem zr_71_46 : z_co 71 46 = (.goto (-43), 3, 0, 0, []) := rfl
theorem zr_71_49 : z_co 71 49 = (.return_, 1, 0, 0, []) := rfl
theorem zr_72_0 : z_co 72 0 = (.aload_n 0, 1, 0, 0, []) := rfl
theorem zr_72_1 : z_co 72 1 = (.invokespecial 3, 3, 1000, 0, [138, 131, 132]) := rfl
theorem zr_72_4 : z_co 72 4 = (.aload_n 0, 1, 0, 0, []) := rfl
theorem zr_72_5 : z_co 72 5 = (.iconst 4, 1, 0, 0, []) := rfl
theorem zr_72_6 : z_co 72 6 = (.bipush 12, 2, 0, 0, []) := rfl
theorem zr_72_8 : z_co 72 8 = (.multianewarray 9 2, 4, 0, 0, [139, 140]) := rfl
theorem zr_72_12 : z_co 72 12 = (.putfield 11, 3, 10, 0, [143]) := rfl
theorem zr_72_15 : z_co 72 15 = (.aload_n 0, 1, 0, 0, []) := rfl
theorem zr_72_16 : z_co 72 16 = (.iconst 2, 1, 0, 0, []) := rfl
theorem zr_72_17 : z_co 72 17 = (.bipush 6, 2, 0, 0, []) := rfl
theorem zr_72_19 : z_co 72 19 = (.multianewarray 9 2, 4, 0, 0, [139, 140]) := rfl
theorem zr_72_23 : z_co 72 23 = (.putfield 16, 3, 10, 1, [148]) := rfl
theorem zr_72_26 : z_co 72 26 = (.aload_n 0, 1, 0, 0, []) := rfl
theorem zr_72_27 : z_co 72 27 = (.iconst 2, 1, 0, 0, []) := rfl
theorem zr_72_28 : z_co 72 28 = (.newarray .int, 2, 0, 0, []) := rfl
theorem zr_72_30 : z_co 72 30 = (.dup, 1, 0, 0, []) := rfl
theorem zr_72_31 : z_co 72 31 = (.iconst 0, 1, 0, 0, []) := rfl
theorem zr_72_32 : z_co 72 32 = (.bipush 9, 2, 0, 0, []) := rfl
theorem zr_72_34 : z_co 72 34 = (.iastore, 1, 0, 0, []) := rfl
theorem zr_72_35 : z_co 72 35 = (.dup, 1, 0, 0, []) := rfl
theorem zr_72_36 : z_co 72 36 = (.iconst 1, 1, 0, 0, []) := rfl
theorem zr_72_37 : z_co 72 37 = (.iconst 0, 1, 0, 0, []) := rfl
theorem zr_72_38 : z_co 72 38 = (.iastore, 1, 0, 0, []) := rfl
theorem zr_72_39 : z_co 72 39 = (.putfield 19, 3, 10, 2, [152]) := rfl
theorem zr_72_42 : z_co 72 42 = (.aload_n 0, 1, 0, 0, []) := rfl
theorem zr_72_43 : z_co 72 43 = (.bipush 6, 2, 0, 0, []) := rfl
theorem zr_72_45 : z_co 72 45 = (.anewarray 23, 3, 106, 0, [141, 142]) := rfl
theorem zr_72_48 : z_co 72 48 = (.putfield 25, 3, 10, 3, [156]) := rfl
theorem zr_72_51 : z_co 72 51 = (.aload_n 0, 1, 0, 0, []) := rfl
theorem zr_72_52 : z_co 72 52 = (.iconst 2, 1, 0, 0, []) := rfl
theorem zr_72_53 : z_co 72 53 = (.bipush 7, 2, 0, 0, []) := rfl
theorem zr_72_55 : z_co 72 55 = (.multianewarray 9 2, 4, 0, 0, [139, 140]) := rfl
theorem zr_72_59 : z_co 72 59 = (.putfield 29, 3, 10, 4, [157]) := rfl
theorem zr_72_62 : z_co 72 62 = (.aload_n 0, 1, 0, 0, []) := rfl
theorem zr_72_63 : z_co 72 63 = (.bipush 8, 2, 0, 0, []) := rfl
theorem zr_72_65 : z_co 72 65 = (.newarray .int, 2, 0, 0, []) := rfl
theorem zr_72_67 : z_co 72 67 = (.putfield 32, 3, 10, 5, [160]) := rfl
theorem zr_72_70 : z_co 72 70 = (.aload_n 0, 1, 0, 0, []) := rfl
theorem zr_72_71 : z_co 72 71 = (.bipush 12, 2, 0, 0, []) := rfl
theorem zr_72_73 : z_co 72 73 = (.newarray .int, 2, 0, 0, []) := rfl
theorem zr_72_75 : z_co 72 75 = (.putfield 35, 3, 10, 6, [161]) := rfl
theorem zr_72_78 : z_co 72 78 = (.aload_n 0, 1, 0, 0, []) := rfl
theorem zr_72_79 : z_co 72 79 = (.iconst (-1), 1, 0, 0, []) := rfl
theorem zr_72_80 : z_co 72 80 = (.putfield 38, 3, 10, 10, [174]) := rfl
theorem zr_72_83 : z_co 72 83 = (.return_, 1, 0, 0, []) := rfl
theorem zr_73_0 : z_co 73 0 = (.aload_n 1, 1, 0, 0, []) := rfl
theorem zr_73_1 : z_co 73 1 = (.getfield 11, 3, 10, 0, [143]) := rfl
theorem zr_73_4 : z_co 73 4 = (.aload_n 0, 1, 0, 0, []) := rfl
theorem zr_73_5 : z_co 73 5 = (.getfield 11, 3, 10, 0, [143]) := rfl
theorem zr_73_8 : z_co 73 8 = (.invokestatic 42, 3, 74, 0, [1155, 1156]) := rfl
theorem zr_73_11 : z_co 73 11 = (.aload_n 1, 1, 0, 0, []) := rfl
theorem zr_73_12 : z_co 73 12 = (.getfield 16, 3, 10, 1, [148]) := rfl
theorem zr_73_15 : z_co 73 15 = (.aload_n 0, 1, 0, 0, []) := rfl
theorem zr_73_16 : z_co 73 16 = (.getfield 16, 3, 10, 1, [148]) := rfl
theorem zr_73_19 : z_co 73 19 = (.invokestatic 42, 3, 74, 0, [1155, 1156]) := rfl
theorem zr_73_22 : z_co 73 22 = (.aload_n 1, 1, 0, 0, []) := rfl
theorem zr_73_23 : z_co 73 23 = (.getfield 29, 3, 10, 4, [157]) := rfl
theorem zr_73_26 : z_co 73 26 = (.aload_n 0, 1, 0, 0, []) := rfl
theorem zr_73_27 : z_co 73 27 = (.getfield 29, 3, 10, 4, [157]) := rfl
theorem zr_73_30 : z_co 73 30 = (.invokestatic 42, 3, 74, 0, [1155, 1156]) := rfl
theorem zr_73_33 : z_co 73 33 = (.aload_n 1, 1, 0, 0, []) := rfl
theorem zr_73_34 : z_co 73 34 = (.getfield 19, 3, 10, 2, [152]) := rfl
theorem zr_73_37 : z_co 73 37 = (.iconst 0, 1, 0, 0, []) := rfl
theorem zr_73_38 : z_co 73 38 = (.aload_n 0, 1, 0, 0, []) := rfl
theorem zr_73_39 : z_co 73 39 = (.getfield 19, 3, 10, 2, [152]) := rfl
theorem zr_73_42 : z_co 73 42 = (.iconst 0, 1, 0, 0, []) := rfl
theorem zr_73_43 : z_co 73 43 = (.aload_n 0, 1, 0, 0, []) := rfl
theorem zr_73_44 : z_co 73 44 = (.getfield 19, 3, 10, 2, [152]) := rfl
theorem zr_73_47 : z_co 73 47 = (.arraylength, 1, 0, 0, []) := rfl
theorem zr_73_48 : z_co 73 48 = (.invokestatic 46, 3, 1001, 0, [1060, 754, 753, 123]) := rfl
theorem zr_73_51 : z_co 73 51 = (.aload_n 1, 1, 0, 0, []) := rfl
theorem zr_73_52 : z_co 73 52 = (.getfield 32, 3, 10, 5, [160]) := rfl
theorem zr_73_55 : z_co 73 55 = (.iconst 0, 1, 0, 0, []) := rfl
theorem zr_73_56 : z_co 73 56 = (.aload_n 0, 1, 0, 0, []) := rfl
theorem zr_73_57 : z_co 73 57 = (.getfield 32, 3, 10, 5, [160]) := rfl
theorem zr_73_60 : z_co 73 60 = (.iconst 0, 1, 0, 0, []) := rfl
theorem zr_73_61 : z_co 73 61 = (.aload_n 0, 1, 0, 0, []) := rfl
theorem zr_73_62 : z_co 73 62 = (.getfield 32, 3, 10, 5, [160]) := rfl
theorem zr_73_65 : z_co 73 65 = (.arraylength, 1, 0, 0, []) := rfl
theorem zr_73_66 : z_co 73 66 = (.invokestatic 46, 3, 1001, 0, [1060, 754, 753, 123]) := rfl
theorem zr_73_69 : z_co 73 69 = (.iconst 0, 1, 0, 0, []) := rfl
theorem zr_73_70 : z_co 73 70 = (.istore_n 2, 1, 0, 0, []) := rfl
theorem zr_73_71 : z_co 73 71 = (.iload_n 2, 1, 0, 0, []) := rfl
theorem zr_73_72 : z_co 73 72 = (.bipush 6, 2, 0, 0, []) := rfl
theorem zr_73_74 : z_co 73 74 = (.if_icmp .ge 21, 3, 0, 0, []) := rfl
theorem zr_73_77 : z_co 73 77 = (.aload_n 0, 1, 0, 0, []) := rfl
theorem zr_73_78 : z_co 73 78 = (.getfield 25, 3, 10, 3, [156]) := rfl
theorem zr_73_81 : z_co 73 81 = (.iload_n 2, 1, 0, 0, []) := rfl
theorem zr_73_82 : z_co 73 82 = (.aload_n 1, 1, 0, 0, []) := rfl
theorem zr_73_83 : z_co 73 83 = (.getfield 25, 3, 10, 3, [156]) := rfl
theorem zr_73_86 : z_co 73 86 = (.iload_n 2, 1, 0, 0, []) := rfl
theorem zr_73_87 : z_co 73 87 = (.aaload, 1, 0, 0, []) := rfl
theorem zr_73_88 : z_co 73 88 = (.aastore, 1, 0, 0, []) := rfl
theorem zr_73_89 : z_co 73 89 = (.iinc 2 1, 3, 0, 0, []) := rfl
theorem zr_73_92 : z_co 73 92 = (.goto (-21), 3, 0, 0, []) := rfl
theorem zr_73_95 : z_co 73 95 = (.aload_n 0, 1, 0, 0, []) := rfl
theorem zr_73_96 : z_co 73 96 = (.aload_n 1, 1, 0, 0, []) := rfl
theorem zr_73_97 : z_co 73 97 = (.getfield 52, 3, 10, 7, [164]) := rfl
theorem zr_73_100 : z_co 73 100 = (.putfield 52, 3, 10, 7, [164]) := rfl
theorem zr_73_103 : z_co 73 103 = (.aload_n 0, 1, 0, 0, []) := rfl
theorem zr_73_104 : z_co 73 104 = (.aload_n 1, 1, 0, 0, []) := rfl
theorem zr_73_105 : z_co 73 105 = (.getfield 55, 3, 10, 8, [168]) := rfl
theorem zr_73_108 : z_co 73 108 = (.putfield 55, 3, 10, 8, [168]) := rfl
theorem zr_73_111 : z_co 73 111 = (.aload_n 0, 1, 0, 0, []) := rfl
theorem zr_73_112 : z_co 73 112 = (.aload_n 1, 1, 0, 0, []) := rfl
theorem zr_73_113 : z_co 73 113 = (.getfield 58, 3, 10, 9, [172]) := rfl
theorem zr_73_116 : z_co 73 116 = (.putfield 58, 3, 10, 9, [172]) := rfl
theorem zr_73_119 : z_co 73 119 = (.aload_n 0, 1, 0, 0, []) := rfl
theorem zr_73_120 : z_co 73 120 = (.aload_n 1, 1, 0, 0, []) := rfl
theorem zr_73_121 : z_co 73 121 = (.getfield 38, 3, 10, 10, [174]) := rfl
theorem zr_73_124 : z_co 73 124 = (.putfield 38, 3, 10, 10, [174]) := rfl
theorem zr_73_127 : z_co 73 127 = (.aload_n 0, 1, 0, 0, []) := rfl
theorem zr_73_128 : z_co 73 128 = (.aload_n 1, 1, 0, 0, []) := rfl
theorem zr_73_129 : z_co 73 129 = (.getfield 61, 3, 10, 11, [176]) := rfl
theorem zr_73_132 : z_co 73 132 = (.putfield 61, 3, 10, 11, [176]) := rfl
theorem zr_73_135 : z_co 73 135 = (.aload_n 0, 1, 0, 0, []) := rfl
theorem zr_73_136 : z_co 73 136 = (.aload_n 1, 1, 0, 0, []) := rfl
theorem zr_73_137 : z_co 73 137 = (.getfield 64, 3, 10, 12, [180]) := rfl
theorem zr_73_140 : z_co 73 140 = (.putfield 64, 3, 10, 12, [180]) := rfl
theorem zr_73_143 : z_co 73 143 = (.return_, 1, 0, 0, []) := rfl
