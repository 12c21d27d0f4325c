/-! the rows: printed by a program -/
theorem zr_169_0 : z_co 169 0 = (.aload_n 0, 1, 0, 0, []) := rfl
theorem zr_169_1 : z_co 169 1 = (.iconst 0, 1, 0, 0, []) := rfl
theorem zr_169_2 : z_co 169 2 = (.putfield 115, 3, 12, 0, [1190]) := rfl
theorem zr_169_5 : z_co 169 5 = (.aload_n 0, 1, 0, 0, []) := rfl
theorem zr_169_6 : z_co 169 6 = (.getfield 177, 3, 12, 6, [1196]) := rfl
theorem zr_169_9 : z_co 169 9 = (.ireturn, 1, 0, 0, []) := rfl
theorem zr_170_0 : z_co 170 0 = (.bipush 24, 2, 0, 0, []) := rfl
theorem zr_170_2 : z_co 170 2 = (.istore_n 2, 1, 0, 0, []) := rfl
theorem zr_170_3 : z_co 170 3 = (.iload_n 2, 1, 0, 0, []) := rfl
theorem zr_170_4 : z_co 170 4 = (.ifCond .lt 35, 3, 0, 0, []) := rfl
theorem zr_170_7 : z_co 170 7 = (.aload_n 0, 1, 0, 0, []) := rfl
theorem zr_170_8 : z_co 170 8 = (.getfield 23, 3, 12, 7, [1197]) := rfl
theorem zr_170_11 : z_co 170 11 = (.aload_n 0, 1, 0, 0, []) := rfl
theorem zr_170_12 : z_co 170 12 = (.getfield 174, 3, 12, 8, [1198]) := rfl
theorem zr_170_15 : z_co 170 15 = (.iload_n 1, 1, 0, 0, []) := rfl
theorem zr_170_16 : z_co 170 16 = (.iload_n 2, 1, 0, 0, []) := rfl
theorem zr_170_17 : z_co 170 17 = (.ishr, 1, 0, 0, []) := rfl
theorem zr_170_18 : z_co 170 18 = (.sipush 255, 3, 0, 0, []) := rfl
theorem zr_170_21 : z_co 170 21 = (.iand, 1, 0, 0, []) := rfl
theorem zr_170_22 : z_co 170 22 = (.iastore, 1, 0, 0, []) := rfl
theorem zr_170_23 : z_co 170 23 = (.aload_n 0, 1, 0, 0, []) := rfl
theorem zr_170_24 : z_co 170 24 = (.dup, 1, 0, 0, []) := rfl
theorem zr_170_25 : z_co 170 25 = (.getfield 174, 3, 12, 8, [1198]) := rfl
theorem zr_170_28 : z_co 170 28 = (.iconst 1, 1, 0, 0, []) := rfl
theorem zr_170_29 : z_co 170 29 = (.iadd, 1, 0, 0, []) := rfl
theorem zr_170_30 : z_co 170 30 = (.putfield 174, 3, 12, 8, [1198]) := rfl
theorem zr_170_33 : z_co 170 33 = (.iinc 2 (-8), 3, 0, 0, []) := rfl
theorem zr_170_36 : z_co 170 36 = (.goto (-33), 3, 0, 0, []) := rfl
theorem zr_170_39 : z_co 170 39 = (.return_, 1, 0, 0, []) := rfl
theorem zr_171_0 : z_co 171 0 = (.aload_n 0, 1, 0, 0, []) := rfl
theorem zr_171_1 : z_co 171 1 = (.iconst 0, 1, 0, 0, []) := rfl
theorem zr_171_2 : z_co 171 2 = (.putfield 115, 3, 12, 0, [1190]) := rfl
theorem zr_171_5 : z_co 171 5 = (.aload_n 0, 1, 0, 0, []) := rfl
theorem zr_171_6 : z_co 171 6 = (.getfield 174, 3, 12, 8, [1198]) := rfl
theorem zr_171_9 : z_co 171 9 = (.bipush 20, 2, 0, 0, []) := rfl
theorem zr_171_11 : z_co 171 11 = (.iadd, 1, 0, 0, []) := rfl
theorem zr_171_12 : z_co 171 12 = (.sipush 400, 3, 0, 0, []) := rfl
theorem zr_171_15 : z_co 171 15 = (.if_icmp .le 5, 3, 0, 0, []) := rfl
theorem zr_171_18 : z_co 171 18 = (.iconst (-1), 1, 0, 0, []) := rfl
theorem zr_171_19 : z_co 171 19 = (.ireturn, 1, 0, 0, []) := rfl
theorem zr_171_20 : z_co 171 20 = (.aload_n 0, 1, 0, 0, []) := rfl
theorem zr_171_21 : z_co 171 21 = (.iload_n 1, 1, 0, 0, []) := rfl
theorem zr_171_22 : z_co 171 22 = (.invokevirtual 180, 3, 170, 0, [1479, 1481, 61]) := rfl
theorem zr_171_25 : z_co 171 25 = (.aload_n 0, 1, 0, 0, []) := rfl
theorem zr_171_26 : z_co 171 26 = (.iload_n 2, 1, 0, 0, []) := rfl
theorem zr_171_27 : z_co 171 27 = (.invokevirtual 180, 3, 170, 0, [1479, 1481, 61]) := rfl
theorem zr_171_30 : z_co 171 30 = (.aload_n 0, 1, 0, 0, []) := rfl
theorem zr_171_31 : z_co 171 31 = (.iload_n 3, 1, 0, 0, []) := rfl
theorem zr_171_32 : z_co 171 32 = (.invokevirtual 180, 3, 170, 0, [1479, 1481, 61]) := rfl
theorem zr_171_35 : z_co 171 35 = (.aload_n 0, 1, 0, 0, []) := rfl
theorem zr_171_36 : z_co 171 36 = (.iload 4, 2, 0, 0, []) := rfl
theorem zr_171_38 : z_co 171 38 = (.invokevirtual 180, 3, 170, 0, [1479, 1481, 61]) := rfl
theorem zr_171_41 : z_co 171 41 = (.aload_n 0, 1, 0, 0, []) := rfl
theorem zr_171_42 : z_co 171 42 = (.iload 5, 2, 0, 0, []) := rfl
theorem zr_171_44 : z_co 171 44 = (.invokevirtual 180, 3, 170, 0, [1479, 1481, 61]) := rfl
theorem zr_171_47 : z_co 171 47 = (.aload_n 0, 1, 0, 0, []) := rfl
theorem zr_171_48 : z_co 171 48 = (.getfield 174, 3, 12, 8, [1198]) := rfl
theorem zr_171_51 : z_co 171 51 = (.ireturn, 1, 0, 0, []) := rfl
theorem zr_172_0 : z_co 172 0 = (.aload_n 0, 1, 0, 0, []) := rfl
theorem zr_172_1 : z_co 172 1 = (.iconst 0, 1, 0, 0, []) := rfl
theorem zr_172_2 : z_co 172 2 = (.putfield 115, 3, 12, 0, [1190]) := rfl
theorem zr_172_5 : z_co 172 5 = (.iload_n 1, 1, 0, 0, []) := rfl
theorem zr_172_6 : z_co 172 6 = (.ifCond .lt 11, 3, 0, 0, []) := rfl
theorem zr_172_9 : z_co 172 9 = (.iload_n 1, 1, 0, 0, []) := rfl
theorem zr_172_10 : z_co 172 10 = (.aload_n 0, 1, 0, 0, []) := rfl
theorem zr_172_11 : z_co 172 11 = (.getfield 174, 3, 12, 8, [1198]) := rfl
theorem zr_172_14 : z_co 172 14 = (.if_icmp .le 5, 3, 0, 0, []) := rfl
theorem zr_172_17 : z_co 172 17 = (.iconst (-1), 1, 0, 0, []) := rfl
theorem zr_172_18 : z_co 172 18 = (.ireturn, 1, 0, 0, []) := rfl
theorem zr_172_19 : z_co 172 19 = (.aload_n 0, 1, 0, 0, []) := rfl
theorem zr_172_20 : z_co 172 20 = (.iload_n 1, 1, 0, 0, []) := rfl
theorem zr_172_21 : z_co 172 21 = (.putfield 174, 3, 12, 8, [1198]) := rfl
theorem zr_172_24 : z_co 172 24 = (.iload_n 1, 1, 0, 0, []) := rfl
theorem zr_172_25 : z_co 172 25 = (.ireturn, 1, 0, 0, []) := rfl
theorem zr_173_0 : z_co 173 0 = (.iload_n 0, 1, 0, 0, []) := rfl
theorem zr_173_1 : z_co 173 1 = (.bipush 97, 2, 0, 0, []) := rfl
theorem zr_173_3 : z_co 173 3 = (.if_icmp .lt 13, 3, 0, 0, []) := rfl
theorem zr_173_6 : z_co 173 6 = (.iload_n 0, 1, 0, 0, []) := rfl
theorem zr_173_7 : z_co 173 7 = (.bipush 122, 2, 0, 0, []) := rfl
theorem zr_173_9 : z_co 173 9 = (.if_icmp .gt 7, 3, 0, 0, []) := rfl
theorem zr_173_12 : z_co 173 12 = (.iconst 1, 1, 0, 0, []) := rfl
theorem zr_173_13 : z_co 173 13 = (.goto 4, 3, 0, 0, []) := rfl
theorem zr_173_16 : z_co 173 16 = (.iconst 0, 1, 0, 0, []) := rfl
theorem zr_173_17 : z_co 173 17 = (.ireturn, 1, 0, 0, []) := rfl
theorem zr_174_0 : z_co 174 0 = (.iload_n 0, 1, 0, 0, []) := rfl
theorem zr_174_1 : z_co 174 1 = (.bipush 48, 2, 0, 0, []) := rfl
theorem zr_174_3 : z_co 174 3 = (.if_icmp .lt 13, 3, 0, 0, []) := rfl
theorem zr_174_6 : z_co 174 6 = (.iload_n 0, 1, 0, 0, []) := rfl
theorem zr_174_7 : z_co 174 7 = (.bipush 57, 2, 0, 0, []) := rfl
theorem zr_174_9 : z_co 174 9 = (.if_icmp .gt 7, 3, 0, 0, []) := rfl
theorem zr_174_12 : z_co 174 12 = (.iconst 1, 1, 0, 0, []) := rfl
theorem zr_174_13 : z_co 174 13 = (.goto 4, 3, 0, 0, []) := rfl
theorem zr_174_16 : z_co 174 16 = (.iconst 0, 1, 0, 0, []) := rfl
theorem zr_174_17 : z_co 174 17 = (.ireturn, 1, 0, 0, []) := rfl
theorem zr_175_0 : z_co 175 0 = (.aload_n 0, 1, 0, 0, []) := rfl
theorem zr_175_1 : z_co 175 1 = (.iconst 0, 1, 0, 0, []) := rfl
theorem zr_175_2 : z_co 175 2 = (.putfield 184, 3, 12, 10, [1200]) := rfl
theorem zr_175_5 : z_co 175 5 = (.aload_n 0, 1, 0, 0, []) := rfl
theorem zr_175_6 : z_co 175 6 = (.iconst 0, 1, 0, 0, []) := rfl
theorem zr_175_7 : z_co 175 7 = (.putfield 187, 3, 12, 14, [1204]) := rfl
theorem zr_175_10 : z_co 175 10 = (.aload_n 0, 1, 0, 0, []) := rfl
theorem zr_175_11 : z_co 175 11 = (.iconst (-1), 1, 0, 0, []) := rfl
theorem zr_175_12 : z_co 175 12 = (.putfield 26, 3, 12, 13, [1203]) := rfl
theorem zr_175_15 : z_co 175 15 = (.aload_n 0, 1, 0, 0, []) := rfl
theorem zr_175_16 : z_co 175 16 = (.invokevirtual 191, 3, 176, 0, [1499, 1501, 63]) := rfl
theorem zr_175_19 : z_co 175 19 = (.return_, 1, 0, 0, []) := rfl
theorem zr_176_0 : z_co 176 0 = (.aload_n 0, 1, 0, 0, []) := rfl
theorem zr_176_1 : z_co 176 1 = (.aload_n 0, 1, 0, 0, []) := rfl
theorem zr_176_2 : z_co 176 2 = (.getfield 184, 3, 12, 10, [1200]) := rfl
theorem zr_176_5 : z_co 176 5 = (.putfield 194, 3, 12, 9, [1199]) := rfl
theorem zr_176_8 : z_co 176 8 = (.aload_n 0, 1, 0, 0, []) := rfl
theorem zr_176_9 : z_co 176 9 = (.getfield 194, 3, 12, 9, [1199]) := rfl
theorem zr_176_12 : z_co 176 12 = (.aload_n 0, 1, 0, 0, []) := rfl
theorem zr_176_13 : z_co 176 13 = (.getfield 174, 3, 12, 8, [1198]) := rfl
theorem zr_176_16 : z_co 176 16 = (.if_icmp .ge 30, 3, 0, 0, []) := rfl
theorem zr_176_19 : z_co 176 19 = (.aload_n 0, 1, 0, 0, []) := rfl
theorem zr_176_20 : z_co 176 20 = (.getfield 23, 3, 12, 7, [1197]) := rfl
theorem zr_176_23 : z_co 176 23 = (.aload_n 0, 1, 0, 0, []) := rfl
theorem zr_176_24 : z_co 176 24 = (.getfield 194, 3, 12, 9, [1199]) := rfl
theorem zr_176_27 : z_co 176 27 = (.iaload, 1, 0, 0, []) := rfl
theorem zr_176_28 : z_co 176 28 = (.bipush 32, 2, 0, 0, []) := rfl
theorem zr_176_30 : z_co 176 30 = (.if_icmp .ne 16, 3, 0, 0, []) := rfl
theorem zr_176_33 : z_co 176 33 = (.aload_n 0, 1, 0, 0, []) := rfl
theorem zr_176_34 : z_co 176 34 = (.dup, 1, 0, 0, []) := rfl
theorem zr_176_35 : z_co 176 35 = (.getfield 194, 3, 12, 9, [1199]) := rfl
theorem zr_176_38 : z_co 176 38 = (.iconst 1, 1, 0, 0, []) := rfl
theorem zr_176_39 : z_co 176 39 = (.iadd, 1, 0, 0, []) := rfl
theorem zr_176_40 : z_co 176 40 = (.putfield 194, 3, 12, 9, [1199]) := rfl
theorem zr_176_43 : z_co 176 43 = (.goto (-35), 3, 0, 0, []) := rfl
theorem zr_176_46 : z_co 176 46 = (.aload_n 0, 1, 0, 0, []) := rfl
theorem zr_176_47 : z_co 176 47 = (.aload_n 0, 1, 0, 0, []) := rfl
theorem zr_176_48 : z_co 176 48 = (.getfield 194, 3, 12, 9, [1199]) := rfl
theorem zr_176_51 : z_co 176 51 = (.putfield 184, 3, 12, 10, [1200]) := rfl
theorem zr_176_54 : z_co 176 54 = (.aload_n 0, 1, 0, 0, []) := rfl
theorem zr_176_55 : z_co 176 55 = (.lconst 0, 1, 0, 0, []) := rfl
theorem zr_176_56 : z_co 176 56 = (.putfield 197, 3, 12, 12, [1202]) := rfl
theorem zr_176_59 : z_co 176 59 = (.aload_n 0, 1, 0, 0, []) := rfl
theorem zr_176_60 : z_co 176 60 = (.aload_n 0, 1, 0, 0, []) := rfl
theorem zr_176_61 : z_co 176 61 = (.getfield 194, 3, 12, 9, [1199]) := rfl
theorem zr_176_64 : z_co 176 64 = (.aload_n 0, 1, 0, 0, []) := rfl
theorem zr_176_65 : z_co 176 65 = (.getfield 174, 3, 12, 8, [1198]) := rfl
theorem zr_176_68 : z_co 176 68 = (.if_icmp .ne 7, 3, 0, 0, []) := rfl
theorem zr_176_71 : z_co 176 71 = (.iconst 0, 1, 0, 0, []) := rfl
theorem zr_176_72 : z_co 176 72 = (.goto 42, 3, 0, 0, []) := rfl
theorem zr_176_75 : z_co 176 75 = (.aload_n 0, 1, 0, 0, []) := rfl
theorem zr_176_76 : z_co 176 76 = (.getfield 23, 3, 12, 7, [1197]) := rfl
theorem zr_176_79 : z_co 176 79 = (.aload_n 0, 1, 0, 0, []) := rfl
theorem zr_176_80 : z_co 176 80 = (.getfield 194, 3, 12, 9, [1199]) := rfl
theorem zr_176_83 : z_co 176 83 = (.iaload, 1, 0, 0, []) := rfl
theorem zr_176_84 : z_co 176 84 = (.invokestatic 201, 3, 173, 0, [1503, 1504]) := rfl
theorem zr_176_87 : z_co 176 87 = (.ifCond .eq 7, 3, 0, 0, []) := rfl
theorem zr_176_90 : z_co 176 90 = (.iconst 1, 1, 0, 0, []) := rfl
theorem zr_176_91 : z_co 176 91 = (.goto 23, 3, 0, 0, []) := rfl
theorem zr_176_94 : z_co 176 94 = (.aload_n 0, 1, 0, 0, []) := rfl
theorem zr_176_95 : z_co 176 95 = (.getfield 23, 3, 12, 7, [1197]) := rfl
theorem zr_176_98 : z_co 176 98 = (.aload_n 0, 1, 0, 0, []) := rfl
theorem zr_176_99 : z_co 176 99 = (.getfield 194, 3, 12, 9, [1199]) := rfl
theorem zr_176_102 : z_co 176 102 = (.iaload, 1, 0, 0, []) := rfl
theorem zr_176_103 : z_co 176 103 = (.invokestatic 204, 3, 174, 0, [1506, 1507]) := rfl
theorem zr_176_106 : z_co 176 106 = (.ifCond .eq 7, 3, 0, 0, []) := rfl
theorem zr_176_109 : z_co 176 109 = (.iconst 2, 1, 0, 0, []) := rfl
theorem zr_176_110 : z_co 176 110 = (.goto 4, 3, 0, 0, []) := rfl
theorem zr_176_113 : z_co 176 113 = (.iconst 3, 1, 0, 0, []) := rfl
theorem zr_176_114 : z_co 176 114 = (.putfield 207, 3, 12, 11, [1201]) := rfl
theorem zr_176_117 : z_co 176 117 = (.aload_n 0, 1, 0, 0, []) := rfl
theorem zr_176_118 : z_co 176 118 = (.getfield 207, 3, 12, 11, [1201]) := rfl
theorem zr_176_121 : z_co 176 121 = (.iconst 3, 1, 0, 0, []) := rfl
theorem zr_176_122 : z_co 176 122 = (.if_icmp .ne 27, 3, 0, 0, []) := rfl
theorem zr_176_125 : z_co 176 125 = (.aload_n 0, 1, 0, 0, []) := rfl
theorem zr_176_126 : z_co 176 126 = (.aload_n 0, 1, 0, 0, []) := rfl
theorem zr_176_127 : z_co 176 127 = (.getfield 23, 3, 12, 7, [1197]) := rfl
theorem zr_176_130 : z_co 176 130 = (.aload_n 0, 1, 0, 0, []) := rfl
theorem zr_176_131 : z_co 176 131 = (.getfield 194, 3, 12, 9, [1199]) := rfl
theorem zr_176_134 : z_co 176 134 = (.iaload, 1, 0, 0, []) := rfl
theorem zr_176_135 : z_co 176 135 = (.i2l, 1, 0, 0, []) := rfl
theorem zr_176_136 : z_co 176 136 = (.putfield 197, 3, 12, 12, [1202]) := rfl
theorem zr_176_139 : z_co 176 139 = (.aload_n 0, 1, 0, 0, []) := rfl
theorem zr_176_140 : z_co 176 140 = (.dup, 1, 0, 0, []) := rfl
theorem zr_176_141 : z_co 176 141 = (.getfield 184, 3, 12, 10, [1200]) := rfl
theorem zr_176_144 : z_co 176 144 = (.iconst 1, 1, 0, 0, []) := rfl
theorem zr_176_145 : z_co 176 145 = (.iadd, 1, 0, 0, []) := rfl
theorem zr_176_146 : z_co 176 146 = (.putfield 184, 3, 12, 10, [1200]) := rfl
theorem zr_176_149 : z_co 176 149 = (.aload_n 0, 1, 0, 0, []) := rfl
theorem zr_176_150 : z_co 176 150 = (.getfield 207, 3, 12, 11, [1201]) := rfl
theorem zr_176_153 : z_co 176 153 = (.iconst 1, 1, 0, 0, []) := rfl
theorem zr_176_154 : z_co 176 154 = (.if_icmp .ne 89, 3, 0, 0, []) := rfl
theorem zr_176_157 : z_co 176 157 = (.aload_n 0, 1, 0, 0, []) := rfl
theorem zr_176_158 : z_co 176 158 = (.getfield 184, 3, 12, 10, [1200]) := rfl
theorem zr_176_161 : z_co 176 161 = (.aload_n 0, 1, 0, 0, []) := rfl
theorem zr_176_162 : z_co 176 162 = (.getfield 174, 3, 12, 8, [1198]) := rfl
theorem zr_176_165 : z_co 176 165 = (.if_icmp .ge 78, 3, 0, 0, []) := rfl
theorem zr_176_168 : z_co 176 168 = (.aload_n 0, 1, 0, 0, []) := rfl
theorem zr_176_169 : z_co 176 169 = (.getfield 23, 3, 12, 7, [1197]) := rfl
theorem zr_176_172 : z_co 176 172 = (.aload_n 0, 1, 0, 0, []) := rfl
theorem zr_176_173 : z_co 176 173 = (.getfield 184, 3, 12, 10, [1200]) := rfl
theorem zr_176_176 : z_co 176 176 = (.iaload, 1, 0, 0, []) := rfl
theorem zr_176_177 : z_co 176 177 = (.invokestatic 201, 3, 173, 0, [1503, 1504]) := rfl
theorem zr_176_180 : z_co 176 180 = (.ifCond .eq 63, 3, 0, 0, []) := rfl
theorem zr_176_183 : z_co 176 183 = (.aload_n 0, 1, 0, 0, []) := rfl
theorem zr_176_184 : z_co 176 184 = (.aload_n 0, 1, 0, 0, []) := rfl
theorem zr_176_185 : z_co 176 185 = (.getfield 184, 3, 12, 10, [1200]) := rfl
theorem zr_176_188 : z_co 176 188 = (.aload_n 0, 1, 0, 0, []) := rfl
theorem zr_176_189 : z_co 176 189 = (.getfield 194, 3, 12, 9, [1199]) := rfl
theorem zr_176_192 : z_co 176 192 = (.isub, 1, 0, 0, []) := rfl
theorem zr_176_193 : z_co 176 193 = (.bipush 10, 2, 0, 0, []) := rfl
theorem zr_176_195 : z_co 176 195 = (.if_icmp .ge 29, 3, 0, 0, []) := rfl
theorem zr_176_198 : z_co 176 198 = (.aload_n 0, 1, 0, 0, []) := rfl
theorem zr_176_199 : z_co 176 199 = (.getfield 197, 3, 12, 12, [1202]) := rfl
theorem zr_176_202 : z_co 176 202 = (.ldc2_w 210, 3, 32, 0, [1509]) := rfl
theorem zr_176_205 : z_co 176 205 = (.lmul, 1, 0, 0, []) := rfl
theorem zr_176_206 : z_co 176 206 = (.aload_n 0, 1, 0, 0, []) := rfl
theorem zr_176_207 : z_co 176 207 = (.getfield 23, 3, 12, 7, [1197]) := rfl
theorem zr_176_210 : z_co 176 210 = (.aload_n 0, 1, 0, 0, []) := rfl
theorem zr_176_211 : z_co 176 211 = (.getfield 184, 3, 12, 10, [1200]) := rfl
theorem zr_176_214 : z_co 176 214 = (.iaload, 1, 0, 0, []) := rfl
theorem zr_176_215 : z_co 176 215 = (.i2l, 1, 0, 0, []) := rfl
theorem zr_176_216 : z_co 176 216 = (.ladd, 1, 0, 0, []) := rfl
theorem zr_176_217 : z_co 176 217 = (.ldc2_w 212, 3, 96, 0, [1510]) := rfl
theorem zr_176_220 : z_co 176 220 = (.lsub, 1, 0, 0, []) := rfl
theorem zr_176_221 : z_co 176 221 = (.goto 6, 3, 0, 0, []) := rfl
theorem zr_176_224 : z_co 176 224 = (.ldc2_w 214, 3, 1, 1, [1511]) := rfl
theorem zr_176_227 : z_co 176 227 = (.putfield 197, 3, 12, 12, [1202]) := rfl
theorem zr_176_230 : z_co 176 230 = (.aload_n 0, 1, 0, 0, []) := rfl
theorem zr_176_231 : z_co 176 231 = (.dup, 1, 0, 0, []) := rfl
theorem zr_176_232 : z_co 176 232 = (.getfield 184, 3, 12, 10, [1200]) := rfl
theorem zr_176_235 : z_co 176 235 = (.iconst 1, 1, 0, 0, []) := rfl
theorem zr_176_236 : z_co 176 236 = (.iadd, 1, 0, 0, []) := rfl
theorem zr_176_237 : z_co 176 237 = (.putfield 184, 3, 12, 10, [1200]) := rfl
theorem zr_176_240 : z_co 176 240 = (.goto (-91), 3, 0, 0, []) := rfl
theorem zr_176_243 : z_co 176 243 = (.aload_n 0, 1, 0, 0, []) := rfl
theorem zr_176_244 : z_co 176 244 = (.getfield 207, 3, 12, 11, [1201]) := rfl
theorem zr_176_247 : z_co 176 247 = (.iconst 2, 1, 0, 0, []) := rfl
theorem zr_176_248 : z_co 176 248 = (.if_icmp .ne 87, 3, 0, 0, []) := rfl
theorem zr_176_251 : z_co 176 251 = (.aload_n 0, 1, 0, 0, []) := rfl
theorem zr_176_252 : z_co 176 252 = (.getfield 184, 3, 12, 10, [1200]) := rfl
theorem zr_176_255 : z_co 176 255 = (.aload_n 0, 1, 0, 0, []) := rfl
theorem zr_176_256 : z_co 176 256 = (.getfield 174, 3, 12, 8, [1198]) := rfl
theorem zr_176_259 : z_co 176 259 = (.if_icmp .ge 76, 3, 0, 0, []) := rfl
theorem zr_176_262 : z_co 176 262 = (.aload_n 0, 1, 0, 0, []) := rfl
theorem zr_176_263 : z_co 176 263 = (.getfield 23, 3, 12, 7, [1197]) := rfl
theorem zr_176_266 : z_co 176 266 = (.aload_n 0, 1, 0, 0, []) := rfl
theorem zr_176_267 : z_co 176 267 = (.getfield 184, 3, 12, 10, [1200]) := rfl
theorem zr_176_270 : z_co 176 270 = (.iaload, 1, 0, 0, []) := rfl
theorem zr_176_271 : z_co 176 271 = (.invokestatic 204, 3, 174, 0, [1506, 1507]) := rfl
theorem zr_176_274 : z_co 176 274 = (.ifCond .eq 61, 3, 0, 0, []) := rfl
theorem zr_176_277 : z_co 176 277 = (.aload_n 0, 1, 0, 0, []) := rfl
theorem zr_176_278 : z_co 176 278 = (.aload_n 0, 1, 0, 0, []) := rfl
theorem zr_176_279 : z_co 176 279 = (.getfield 197, 3, 12, 12, [1202]) := rfl
theorem zr_176_282 : z_co 176 282 = (.ldc2_w 216, 3, 1000000, 0, [1512]) := rfl
theorem zr_176_285 : z_co 176 285 = (.lcmp, 1, 0, 0, []) := rfl
theorem zr_176_286 : z_co 176 286 = (.ifCond .le 10, 3, 0, 0, []) := rfl
theorem zr_176_289 : z_co 176 289 = (.aload_n 0, 1, 0, 0, []) := rfl
theorem zr_176_290 : z_co 176 290 = (.getfield 197, 3, 12, 12, [1202]) := rfl
theorem zr_176_293 : z_co 176 293 = (.goto 26, 3, 0, 0, []) := rfl
theorem zr_176_296 : z_co 176 296 = (.aload_n 0, 1, 0, 0, []) := rfl
theorem zr_176_297 : z_co 176 297 = (.getfield 197, 3, 12, 12, [1202]) := rfl
theorem zr_176_300 : z_co 176 300 = (.ldc2_w 218, 3, 10, 0, [1513]) := rfl
theorem zr_176_303 : z_co 176 303 = (.lmul, 1, 0, 0, []) := rfl
theorem zr_176_304 : z_co 176 304 = (.aload_n 0, 1, 0, 0, []) := rfl
theorem zr_176_305 : z_co 176 305 = (.getfield 23, 3, 12, 7, [1197]) := rfl
theorem zr_176_308 : z_co 176 308 = (.aload_n 0, 1, 0, 0, []) := rfl
theorem zr_176_309 : z_co 176 309 = (.getfield 184, 3, 12, 10, [1200]) := rfl
theorem zr_176_312 : z_co 176 312 = (.iaload, 1, 0, 0, []) := rfl
theorem zr_176_313 : z_co 176 313 = (.i2l, 1, 0, 0, []) := rfl
theorem zr_176_314 : z_co 176 314 = (.ladd, 1, 0, 0, []) := rfl
theorem zr_176_315 : z_co 176 315 = (.ldc2_w 220, 3, 48, 0, [1514]) := rfl
theorem zr_176_318 : z_co 176 318 = (.lsub, 1, 0, 0, []) := rfl
theorem zr_176_319 : z_co 176 319 = (.putfield 197, 3, 12, 12, [1202]) := rfl
theorem zr_176_322 : z_co 176 322 = (.aload_n 0, 1, 0, 0, []) := rfl
theorem zr_176_323 : z_co 176 323 = (.dup, 1, 0, 0, []) := rfl
theorem zr_176_324 : z_co 176 324 = (.getfield 184, 3, 12, 10, [1200]) := rfl
theorem zr_176_327 : z_co 176 327 = (.iconst 1, 1, 0, 0, []) := rfl
theorem zr_176_328 : z_co 176 328 = (.iadd, 1, 0, 0, []) := rfl
theorem zr_176_329 : z_co 176 329 = (.putfield 184, 3, 12, 10, [1200]) := rfl
theorem zr_176_332 : z_co 176 332 = (.goto (-89), 3, 0, 0, []) := rfl
theorem zr_176_335 : z_co 176 335 = (.return_, 1, 0, 0, []) := rfl
theorem zr_177_0 : z_co 177 0 = (.aload_n 0, 1, 0, 0, []) := rfl
theorem zr_177_1 : z_co 177 1 = (.getfield 207, 3, 12, 11, [1201]) := rfl
theorem zr_177_4 : z_co 177 4 = (.iconst 1, 1, 0, 0, []) := rfl
theorem zr_177_5 : z_co 177 5 = (.if_icmp .ne 16, 3, 0, 0, []) := rfl
theorem zr_177_8 : z_co 177 8 = (.aload_n 0, 1, 0, 0, []) := rfl
theorem zr_177_9 : z_co 177 9 = (.getfield 197, 3, 12, 12, [1202]) := rfl
theorem zr_177_12 : z_co 177 12 = (.lload_n 1, 1, 0, 0, []) := rfl
theorem zr_177_13 : z_co 177 13 = (.lcmp, 1, 0, 0, []) := rfl
theorem zr_177_14 : z_co 177 14 = (.ifCond .ne 7, 3, 0, 0, []) := rfl
theorem zr_177_17 : z_co 177 17 = (.iconst 1, 1, 0, 0, []) := rfl
theorem zr_177_18 : z_co 177 18 = (.goto 4, 3, 0, 0, []) := rfl
theorem zr_177_21 : z_co 177 21 = (.iconst 0, 1, 0, 0, []) := rfl
theorem zr_177_22 : z_co 177 22 = (.ireturn, 1, 0, 0, []) := rfl
theorem zr_178_0 : z_co 178 0 = (.aload_n 0, 1, 0, 0, []) := rfl
theorem zr_178_1 : z_co 178 1 = (.getfield 207, 3, 12, 11, [1201]) := rfl
theorem zr_178_4 : z_co 178 4 = (.iconst 3, 1, 0, 0, []) := rfl
theorem zr_178_5 : z_co 178 5 = (.if_icmp .ne 17, 3, 0, 0, []) := rfl
theorem zr_178_8 : z_co 178 8 = (.aload_n 0, 1, 0, 0, []) := rfl
theorem zr_178_9 : z_co 178 9 = (.getfield 197, 3, 12, 12, [1202]) := rfl
theorem zr_178_12 : z_co 178 12 = (.iload_n 1, 1, 0, 0, []) := rfl
theorem zr_178_13 : z_co 178 13 = (.i2l, 1, 0, 0, []) := rfl
theorem zr_178_14 : z_co 178 14 = (.lcmp, 1, 0, 0, []) := rfl
theorem zr_178_15 : z_co 178 15 = (.ifCond .ne 7, 3, 0, 0, []) := rfl
theorem zr_178_18 : z_co 178 18 = (.iconst 1, 1, 0, 0, []) := rfl
theorem zr_178_19 : z_co 178 19 = (.goto 4, 3, 0, 0, []) := rfl
theorem zr_178_22 : z_co 178 22 = (.iconst 0, 1, 0, 0, []) := rfl
theorem zr_178_23 : z_co 178 23 = (.ireturn, 1, 0, 0, []) := rfl
theorem zr_179_0 : z_co 179 0 = (.aload_n 0, 1, 0, 0, []) := rfl
theorem zr_179_1 : z_co 179 1 = (.getfield 187, 3, 12, 14, [1204]) := rfl
theorem zr_179_4 : z_co 179 4 = (.ifCond .ne 20, 3, 0, 0, []) := rfl
theorem zr_179_7 : z_co 179 7 = (.iload_n 1, 1, 0, 0, []) := rfl
theorem zr_179_8 : z_co 179 8 = (.ifCond .ne 16, 3, 0, 0, []) := rfl
theorem zr_179_11 : z_co 179 11 = (.aload_n 0, 1, 0, 0, []) := rfl
theorem zr_179_12 : z_co 179 12 = (.iconst 1, 1, 0, 0, []) := rfl
theorem zr_179_13 : z_co 179 13 = (.putfield 187, 3, 12, 14, [1204]) := rfl
theorem zr_179_16 : z_co 179 16 = (.aload_n 0, 1, 0, 0, []) := rfl
theorem zr_179_17 : z_co 179 17 = (.aload_n 0, 1, 0, 0, []) := rfl
theorem zr_179_18 : z_co 179 18 = (.getfield 194, 3, 12, 9, [1199]) := rfl
theorem zr_179_21 : z_co 179 21 = (.putfield 26, 3, 12, 13, [1203]) := rfl
theorem zr_179_24 : z_co 179 24 = (.aload_n 0, 1, 0, 0, []) := rfl
theorem zr_179_25 : z_co 179 25 = (.getfield 187, 3, 12, 14, [1204]) := rfl
theorem zr_179_28 : z_co 179 28 = (.ifCond .ne 7, 3, 0, 0, []) := rfl
theorem zr_179_31 : z_co 179 31 = (.aload_n 0, 1, 0, 0, []) := rfl
theorem zr_179_32 : z_co 179 32 = (.invokevirtual 191, 3, 176, 0, [1499, 1501, 63]) := rfl
theorem zr_179_35 : z_co 179 35 = (.return_, 1, 0, 0, []) := rfl
theorem zr_180_0 : z_co 180 0 = (.aload_n 0, 1, 0, 0, []) := rfl
theorem zr_180_1 : z_co 180 1 = (.iconst 0, 1, 0, 0, []) := rfl
theorem zr_180_2 : z_co 180 2 = (.putfield 115, 3, 12, 0, [1190]) := rfl
theorem zr_180_5 : z_co 180 5 = (.aload_n 0, 1, 0, 0, []) := rfl
theorem zr_180_6 : z_co 180 6 = (.getfield 26, 3, 12, 13, [1203]) := rfl
theorem zr_180_9 : z_co 180 9 = (.ireturn, 1, 0, 0, []) := rfl
theorem zr_181_0 : z_co 181 0 = (.aload_n 0, 1, 0, 0, []) := rfl
theorem zr_181_1 : z_co 181 1 = (.getfield 33, 3, 12, 18, [1208]) := rfl
theorem zr_181_4 : z_co 181 4 = (.aload_n 0, 1, 0, 0, []) := rfl
theorem zr_181_5 : z_co 181 5 = (.getfield 226, 3, 12, 17, [1207]) := rfl
theorem zr_181_8 : z_co 181 8 = (.iload_n 1, 1, 0, 0, []) := rfl
theorem zr_181_9 : z_co 181 9 = (.iastore, 1, 0, 0, []) := rfl
theorem zr_181_10 : z_co 181 10 = (.aload_n 0, 1, 0, 0, []) := rfl
theorem zr_181_11 : z_co 181 11 = (.getfield 36, 3, 12, 19, [1209]) := rfl
theorem zr_181_14 : z_co 181 14 = (.aload_n 0, 1, 0, 0, []) := rfl
theorem zr_181_15 : z_co 181 15 = (.getfield 226, 3, 12, 17, [1207]) := rfl
theorem zr_181_18 : z_co 181 18 = (.iload_n 2, 1, 0, 0, []) := rfl
theorem zr_181_19 : z_co 181 19 = (.iastore, 1, 0, 0, []) := rfl
theorem zr_181_20 : z_co 181 20 = (.aload_n 0, 1, 0, 0, []) := rfl
theorem zr_181_21 : z_co 181 21 = (.dup, 1, 0, 0, []) := rfl
theorem zr_181_22 : z_co 181 22 = (.getfield 226, 3, 12, 17, [1207]) := rfl
theorem zr_181_25 : z_co 181 25 = (.iconst 1, 1, 0, 0, []) := rfl
theorem zr_181_26 : z_co 181 26 = (.iadd, 1, 0, 0, []) := rfl
theorem zr_181_27 : z_co 181 27 = (.putfield 226, 3, 12, 17, [1207]) := rfl
theorem zr_181_30 : z_co 181 30 = (.return_, 1, 0, 0, []) := rfl
theorem zr_182_0 : z_co 182 0 = (.aload_n 0, 1, 0, 0, []) := rfl
theorem zr_182_1 : z_co 182 1 = (.getfield 39, 3, 12, 21, [1211]) := rfl
theorem zr_182_4 : z_co 182 4 = (.aload_n 0, 1, 0, 0, []) := rfl
theorem zr_182_5 : z_co 182 5 = (.getfield 229, 3, 12, 23, [1213]) := rfl
theorem zr_182_8 : z_co 182 8 = (.iload_n 1, 1, 0, 0, []) := rfl
theorem zr_182_9 : z_co 182 9 = (.iastore, 1, 0, 0, []) := rfl
theorem zr_182_10 : z_co 182 10 = (.aload_n 0, 1, 0, 0, []) := rfl
theorem zr_182_11 : z_co 182 11 = (.getfield 42, 3, 12, 22, [1212]) := rfl
theorem zr_182_14 : z_co 182 14 = (.aload_n 0, 1, 0, 0, []) := rfl
theorem zr_182_15 : z_co 182 15 = (.getfield 229, 3, 12, 23, [1213]) := rfl
theorem zr_182_18 : z_co 182 18 = (.iload_n 2, 1, 0, 0, []) := rfl
theorem zr_182_19 : z_co 182 19 = (.iastore, 1, 0, 0, []) := rfl
theorem zr_182_20 : z_co 182 20 = (.aload_n 0, 1, 0, 0, []) := rfl
theorem zr_182_21 : z_co 182 21 = (.dup, 1, 0, 0, []) := rfl
theorem zr_182_22 : z_co 182 22 = (.getfield 229, 3, 12, 23, [1213]) := rfl
theorem zr_182_25 : z_co 182 25 = (.iconst 1, 1, 0, 0, []) := rfl
theorem zr_182_26 : z_co 182 26 = (.iadd, 1, 0, 0, []) := rfl
theorem zr_182_27 : z_co 182 27 = (.putfield 229, 3, 12, 23, [1213]) := rfl
theorem zr_182_30 : z_co 182 30 = (.return_, 1, 0, 0, []) := rfl
theorem zr_183_0 : z_co 183 0 = (.iload_n 0, 1, 0, 0, []) := rfl
theorem zr_183_1 : z_co 183 1 = (.bipush 30, 2, 0, 0, []) := rfl
theorem zr_183_3 : z_co 183 3 = (.if_icmp .lt 7, 3, 0, 0, []) := rfl
theorem zr_183_6 : z_co 183 6 = (.iconst 0, 1, 0, 0, []) := rfl
theorem zr_183_7 : z_co 183 7 = (.goto 55, 3, 0, 0, []) := rfl
theorem zr_183_10 : z_co 183 10 = (.iload_n 0, 1, 0, 0, []) := rfl
theorem zr_183_11 : z_co 183 11 = (.bipush 29, 2, 0, 0, []) := rfl
theorem zr_183_13 : z_co 183 13 = (.if_icmp .ne 7, 3, 0, 0, []) := rfl
theorem zr_183_16 : z_co 183 16 = (.iconst 1, 1, 0, 0, []) := rfl
theorem zr_183_17 : z_co 183 17 = (.goto 45, 3, 0, 0, []) := rfl
theorem zr_183_20 : z_co 183 20 = (.iload_n 0, 1, 0, 0, []) := rfl
theorem zr_183_21 : z_co 183 21 = (.bipush 28, 2, 0, 0, []) := rfl
theorem zr_183_23 : z_co 183 23 = (.if_icmp .ne 7, 3, 0, 0, []) := rfl
theorem zr_183_26 : z_co 183 26 = (.iconst 2, 1, 0, 0, []) := rfl
theorem zr_183_27 : z_co 183 27 = (.goto 35, 3, 0, 0, []) := rfl
theorem zr_183_30 : z_co 183 30 = (.iload_n 0, 1, 0, 0, []) := rfl
theorem zr_183_31 : z_co 183 31 = (.bipush 27, 2, 0, 0, []) := rfl
theorem zr_183_33 : z_co 183 33 = (.if_icmp .ne 7, 3, 0, 0, []) := rfl
theorem zr_183_36 : z_co 183 36 = (.iconst 3, 1, 0, 0, []) := rfl
theorem zr_183_37 : z_co 183 37 = (.goto 25, 3, 0, 0, []) := rfl
theorem zr_183_40 : z_co 183 40 = (.iload_n 0, 1, 0, 0, []) := rfl
theorem zr_183_41 : z_co 183 41 = (.bipush 24, 2, 0, 0, []) := rfl
theorem zr_183_43 : z_co 183 43 = (.if_icmp .lt 7, 3, 0, 0, []) := rfl
theorem zr_183_46 : z_co 183 46 = (.iconst 4, 1, 0, 0, []) := rfl
theorem zr_183_47 : z_co 183 47 = (.goto 15, 3, 0, 0, []) := rfl
theorem zr_183_50 : z_co 183 50 = (.iload_n 0, 1, 0, 0, []) := rfl
theorem zr_183_51 : z_co 183 51 = (.bipush 22, 2, 0, 0, []) := rfl
theorem zr_183_53 : z_co 183 53 = (.if_icmp .lt 8, 3, 0, 0, []) := rfl
theorem zr_183_56 : z_co 183 56 = (.bipush 6, 2, 0, 0, []) := rfl
theorem zr_183_58 : z_co 183 58 = (.goto 4, 3, 0, 0, []) := rfl
theorem zr_183_61 : z_co 183 61 = (.iconst 5, 1, 0, 0, []) := rfl
theorem zr_183_62 : z_co 183 62 = (.ireturn, 1, 0, 0, []) := rfl
theorem zr_184_0 : z_co 184 0 = (.aload_n 0, 1, 0, 0, []) := rfl
theorem zr_184_1 : z_co 184 1 = (.getfield 229, 3, 12, 23, [1213]) := rfl
theorem zr_184_4 : z_co 184 4 = (.ifCond .le 97, 3, 0, 0, []) := rfl
theorem zr_184_7 : z_co 184 7 = (.aload_n 0, 1, 0, 0, []) := rfl
theorem zr_184_8 : z_co 184 8 = (.getfield 39, 3, 12, 21, [1211]) := rfl
theorem zr_184_11 : z_co 184 11 = (.aload_n 0, 1, 0, 0, []) := rfl
theorem zr_184_12 : z_co 184 12 = (.getfield 229, 3, 12, 23, [1213]) := rfl
theorem zr_184_15 : z_co 184 15 = (.iconst 1, 1, 0, 0, []) := rfl
theorem zr_184_16 : z_co 184 16 = (.isub, 1, 0, 0, []) := rfl
theorem zr_184_17 : z_co 184 17 = (.iaload, 1, 0, 0, []) := rfl
theorem zr_184_18 : z_co 184 18 = (.invokestatic 232, 3, 183, 0, [1570, 1571]) := rfl
theorem zr_184_21 : z_co 184 21 = (.iload_n 1, 1, 0, 0, []) := rfl
theorem zr_184_22 : z_co 184 22 = (.if_icmp .lt 79, 3, 0, 0, []) := rfl
theorem zr_184_25 : z_co 184 25 = (.aload_n 0, 1, 0, 0, []) := rfl
theorem zr_184_26 : z_co 184 26 = (.dup, 1, 0, 0, []) := rfl
theorem zr_184_27 : z_co 184 27 = (.getfield 229, 3, 12, 23, [1213]) := rfl
theorem zr_184_30 : z_co 184 30 = (.iconst 1, 1, 0, 0, []) := rfl
theorem zr_184_31 : z_co 184 31 = (.isub, 1, 0, 0, []) := rfl
theorem zr_184_32 : z_co 184 32 = (.putfield 229, 3, 12, 23, [1213]) := rfl
theorem zr_184_35 : z_co 184 35 = (.aload_n 0, 1, 0, 0, []) := rfl
theorem zr_184_36 : z_co 184 36 = (.getfield 39, 3, 12, 21, [1211]) := rfl
theorem zr_184_39 : z_co 184 39 = (.aload_n 0, 1, 0, 0, []) := rfl
theorem zr_184_40 : z_co 184 40 = (.getfield 229, 3, 12, 23, [1213]) := rfl
theorem zr_184_43 : z_co 184 43 = (.iaload, 1, 0, 0, []) := rfl
theorem zr_184_44 : z_co 184 44 = (.bipush 28, 2, 0, 0, []) := rfl
theorem zr_184_46 : z_co 184 46 = (.if_icmp .eq 17, 3, 0, 0, []) := rfl
theorem zr_184_49 : z_co 184 49 = (.aload_n 0, 1, 0, 0, []) := rfl
theorem zr_184_50 : z_co 184 50 = (.getfield 39, 3, 12, 21, [1211]) := rfl
theorem zr_184_53 : z_co 184 53 = (.aload_n 0, 1, 0, 0, []) := rfl
theorem zr_184_54 : z_co 184 54 = (.getfield 229, 3, 12, 23, [1213]) := rfl
theorem zr_184_57 : z_co 184 57 = (.iaload, 1, 0, 0, []) := rfl
theorem zr_184_58 : z_co 184 58 = (.bipush 29, 2, 0, 0, []) := rfl
theorem zr_184_60 : z_co 184 60 = (.if_icmp .ne 24, 3, 0, 0, []) := rfl
theorem zr_184_63 : z_co 184 63 = (.aload_n 0, 1, 0, 0, []) := rfl
theorem zr_184_64 : z_co 184 64 = (.getfield 36, 3, 12, 19, [1209]) := rfl
theorem zr_184_67 : z_co 184 67 = (.aload_n 0, 1, 0, 0, []) := rfl
theorem zr_184_68 : z_co 184 68 = (.getfield 42, 3, 12, 22, [1212]) := rfl
theorem zr_184_71 : z_co 184 71 = (.aload_n 0, 1, 0, 0, []) := rfl
theorem zr_184_72 : z_co 184 72 = (.getfield 229, 3, 12, 23, [1213]) := rfl
theorem zr_184_75 : z_co 184 75 = (.iaload, 1, 0, 0, []) := rfl
theorem zr_184_76 : z_co 184 76 = (.aload_n 0, 1, 0, 0, []) := rfl
theorem zr_184_77 : z_co 184 77 = (.getfield 226, 3, 12, 17, [1207]) := rfl
theorem zr_184_80 : z_co 184 80 = (.iastore, 1, 0, 0, []) := rfl
theorem zr_184_81 : z_co 184 81 = (.goto (-81), 3, 0, 0, []) := rfl
theorem zr_184_84 : z_co 184 84 = (.aload_n 0, 1, 0, 0, []) := rfl
theorem zr_184_85 : z_co 184 85 = (.aload_n 0, 1, 0, 0, []) := rfl
theorem zr_184_86 : z_co 184 86 = (.getfield 39, 3, 12, 21, [1211]) := rfl
theorem zr_184_89 : z_co 184 89 = (.aload_n 0, 1, 0, 0, []) := rfl
theorem zr_184_90 : z_co 184 90 = (.getfield 229, 3, 12, 23, [1213]) := rfl
theorem zr_184_93 : z_co 184 93 = (.iaload, 1, 0, 0, []) := rfl
theorem zr_184_94 : z_co 184 94 = (.iconst 0, 1, 0, 0, []) := rfl
theorem zr_184_95 : z_co 184 95 = (.invokevirtual 235, 3, 181, 0, [1562, 1564, 75]) := rfl
theorem zr_184_98 : z_co 184 98 = (.goto (-98), 3, 0, 0, []) := rfl
theorem zr_184_101 : z_co 184 101 = (.return_, 1, 0, 0, []) := rfl
theorem zr_185_0 : z_co 185 0 = (.iconst (-1), 1, 0, 0, []) := rfl
theorem zr_185_1 : z_co 185 1 = (.istore_n 1, 1, 0, 0, []) := rfl
theorem zr_185_2 : z_co 185 2 = (.iconst 0, 1, 0, 0, []) := rfl
theorem zr_185_3 : z_co 185 3 = (.istore_n 2, 1, 0, 0, []) := rfl
theorem zr_185_4 : z_co 185 4 = (.iload_n 2, 1, 0, 0, []) := rfl
theorem zr_185_5 : z_co 185 5 = (.aload_n 0, 1, 0, 0, []) := rfl
theorem zr_185_6 : z_co 185 6 = (.getfield 229, 3, 12, 23, [1213]) := rfl
theorem zr_185_9 : z_co 185 9 = (.if_icmp .ge 31, 3, 0, 0, []) := rfl
theorem zr_185_12 : z_co 185 12 = (.aload_n 0, 1, 0, 0, []) := rfl
theorem zr_185_13 : z_co 185 13 = (.getfield 39, 3, 12, 21, [1211]) := rfl
theorem zr_185_16 : z_co 185 16 = (.iload_n 2, 1, 0, 0, []) := rfl
theorem zr_185_17 : z_co 185 17 = (.iaload, 1, 0, 0, []) := rfl
theorem zr_185_18 : z_co 185 18 = (.bipush 30, 2, 0, 0, []) := rfl
theorem zr_185_20 : z_co 185 20 = (.if_icmp .lt 12, 3, 0, 0, []) := rfl
theorem zr_185_23 : z_co 185 23 = (.aload_n 0, 1, 0, 0, []) := rfl
theorem zr_185_24 : z_co 185 24 = (.getfield 39, 3, 12, 21, [1211]) := rfl
theorem zr_185_27 : z_co 185 27 = (.iload_n 2, 1, 0, 0, []) := rfl
theorem zr_185_28 : z_co 185 28 = (.iaload, 1, 0, 0, []) := rfl
theorem zr_185_29 : z_co 185 29 = (.goto 4, 3, 0, 0, []) := rfl
theorem zr_185_32 : z_co 185 32 = (.iload_n 1, 1, 0, 0, []) := rfl
theorem zr_185_33 : z_co 185 33 = (.istore_n 1, 1, 0, 0, []) := rfl
theorem zr_185_34 : z_co 185 34 = (.iinc 2 1, 3, 0, 0, []) := rfl
theorem zr_185_37 : z_co 185 37 = (.goto (-33), 3, 0, 0, []) := rfl
theorem zr_185_40 : z_co 185 40 = (.iload_n 1, 1, 0, 0, []) := rfl
theorem zr_185_41 : z_co 185 41 = (.ireturn, 1, 0, 0, []) := rfl
theorem zr_186_0 : z_co 186 0 = (.aload_n 0, 1, 0, 0, []) := rfl
theorem zr_186_1 : z_co 186 1 = (.getfield 229, 3, 12, 23, [1213]) := rfl
theorem zr_186_4 : z_co 186 4 = (.iconst 1, 1, 0, 0, []) := rfl
theorem zr_186_5 : z_co 186 5 = (.isub, 1, 0, 0, []) := rfl
theorem zr_186_6 : z_co 186 6 = (.istore_n 1, 1, 0, 0, []) := rfl
theorem zr_186_7 : z_co 186 7 = (.iload_n 1, 1, 0, 0, []) := rfl
theorem zr_186_8 : z_co 186 8 = (.ifCond .lt 28, 3, 0, 0, []) := rfl
theorem zr_186_11 : z_co 186 11 = (.aload_n 0, 1, 0, 0, []) := rfl
theorem zr_186_12 : z_co 186 12 = (.getfield 39, 3, 12, 21, [1211]) := rfl
theorem zr_186_15 : z_co 186 15 = (.iload_n 1, 1, 0, 0, []) := rfl
theorem zr_186_16 : z_co 186 16 = (.iaload, 1, 0, 0, []) := rfl
theorem zr_186_17 : z_co 186 17 = (.i2l, 1, 0, 0, []) := rfl
theorem zr_186_18 : z_co 186 18 = (.ldc2_w 239, 3, 20, 0, [1585]) := rfl
theorem zr_186_21 : z_co 186 21 = (.ldc2_w 172, 3, 23, 0, [1466]) := rfl
theorem zr_186_24 : z_co 186 24 = (.invokestatic 125, 3, 145, 0, [1363, 1364]) := rfl
theorem zr_186_27 : z_co 186 27 = (.ifCond .eq 9, 3, 0, 0, []) := rfl
theorem zr_186_30 : z_co 186 30 = (.iinc 1 (-1), 3, 0, 0, []) := rfl
theorem zr_186_33 : z_co 186 33 = (.goto (-26), 3, 0, 0, []) := rfl
theorem zr_186_36 : z_co 186 36 = (.iload_n 1, 1, 0, 0, []) := rfl
theorem zr_186_37 : z_co 186 37 = (.ifCond .lt 26, 3, 0, 0, []) := rfl
theorem zr_186_40 : z_co 186 40 = (.aload_n 0, 1, 0, 0, []) := rfl
theorem zr_186_41 : z_co 186 41 = (.getfield 39, 3, 12, 21, [1211]) := rfl
theorem zr_186_44 : z_co 186 44 = (.iload_n 1, 1, 0, 0, []) := rfl
theorem zr_186_45 : z_co 186 45 = (.iaload, 1, 0, 0, []) := rfl
theorem zr_186_46 : z_co 186 46 = (.i2l, 1, 0, 0, []) := rfl
theorem zr_186_47 : z_co 186 47 = (.ldc2_w 241, 3, 24, 0, [1586]) := rfl
theorem zr_186_50 : z_co 186 50 = (.ldc2_w 243, 3, 26, 0, [1587]) := rfl
theorem zr_186_53 : z_co 186 53 = (.invokestatic 125, 3, 145, 0, [1363, 1364]) := rfl
theorem zr_186_56 : z_co 186 56 = (.ifCond .eq 7, 3, 0, 0, []) := rfl
theorem zr_186_59 : z_co 186 59 = (.iconst 1, 1, 0, 0, []) := rfl
theorem zr_186_60 : z_co 186 60 = (.goto 4, 3, 0, 0, []) := rfl
theorem zr_186_63 : z_co 186 63 = (.iconst 0, 1, 0, 0, []) := rfl
theorem zr_186_64 : z_co 186 64 = (.ireturn, 1, 0, 0, []) := rfl
theorem zr_187_0 : z_co 187 0 = (.iconst (-1), 1, 0, 0, []) := rfl
theorem zr_187_1 : z_co 187 1 = (.istore_n 1, 1, 0, 0, []) := rfl
theorem zr_187_2 : z_co 187 2 = (.iconst 0, 1, 0, 0, []) := rfl
theorem zr_187_3 : z_co 187 3 = (.istore_n 2, 1, 0, 0, []) := rfl
theorem zr_187_4 : z_co 187 4 = (.iload_n 2, 1, 0, 0, []) := rfl
theorem zr_187_5 : z_co 187 5 = (.bipush 9, 2, 0, 0, []) := rfl
theorem zr_187_7 : z_co 187 7 = (.if_icmp .ge 30, 3, 0, 0, []) := rfl
theorem zr_187_10 : z_co 187 10 = (.aload_n 0, 1, 0, 0, []) := rfl
theorem zr_187_11 : z_co 187 11 = (.aload_n 0, 1, 0, 0, []) := rfl
theorem zr_187_12 : z_co 187 12 = (.getfield 63, 3, 12, 25, [1215]) := rfl
theorem zr_187_15 : z_co 187 15 = (.iload_n 2, 1, 0, 0, []) := rfl
theorem zr_187_16 : z_co 187 16 = (.laload, 1, 0, 0, []) := rfl
theorem zr_187_17 : z_co 187 17 = (.invokevirtual 245, 3, 177, 0, [1519, 1521, 65]) := rfl
theorem zr_187_20 : z_co 187 20 = (.ifCond .eq 9, 3, 0, 0, []) := rfl
theorem zr_187_23 : z_co 187 23 = (.iload_n 2, 1, 0, 0, []) := rfl
theorem zr_187_24 : z_co 187 24 = (.iconst 1, 1, 0, 0, []) := rfl
theorem zr_187_25 : z_co 187 25 = (.iadd, 1, 0, 0, []) := rfl
theorem zr_187_26 : z_co 187 26 = (.goto 4, 3, 0, 0, []) := rfl
theorem zr_187_29 : z_co 187 29 = (.iload_n 1, 1, 0, 0, []) := rfl
theorem zr_187_30 : z_co 187 30 = (.istore_n 1, 1, 0, 0, []) := rfl
theorem zr_187_31 : z_co 187 31 = (.iinc 2 1, 3, 0, 0, []) := rfl
theorem zr_187_34 : z_co 187 34 = (.goto (-30), 3, 0, 0, []) := rfl
theorem zr_187_37 : z_co 187 37 = (.iload_n 1, 1, 0, 0, []) := rfl
theorem zr_187_38 : z_co 187 38 = (.ireturn, 1, 0, 0, []) := rfl
theorem zr_188_0 : z_co 188 0 = (.aload_n 0, 1, 0, 0, []) := rfl
theorem zr_188_1 : z_co 188 1 = (.aload_n 0, 1, 0, 0, []) := rfl
theorem zr_188_2 : z_co 188 2 = (.getfield 249, 3, 12, 24, [1214]) := rfl
theorem zr_188_5 : z_co 188 5 = (.bipush 8, 2, 0, 0, []) := rfl
theorem zr_188_7 : z_co 188 7 = (.if_icmp .ge 7, 3, 0, 0, []) := rfl
theorem zr_188_10 : z_co 188 10 = (.iconst 1, 1, 0, 0, []) := rfl
theorem zr_188_11 : z_co 188 11 = (.goto 4, 3, 0, 0, []) := rfl
theorem zr_188_14 : z_co 188 14 = (.iconst 0, 1, 0, 0, []) := rfl
theorem zr_188_15 : z_co 188 15 = (.invokevirtual 222, 3, 179, 0, [1524, 1526, 66]) := rfl
theorem zr_188_18 : z_co 188 18 = (.aload_n 0, 1, 0, 0, []) := rfl
theorem zr_188_19 : z_co 188 19 = (.getfield 187, 3, 12, 14, [1204]) := rfl
theorem zr_188_22 : z_co 188 22 = (.ifCond .ne 19, 3, 0, 0, []) := rfl
theorem zr_188_25 : z_co 188 25 = (.aload_n 0, 1, 0, 0, []) := rfl
theorem zr_188_26 : z_co 188 26 = (.dup, 1, 0, 0, []) := rfl
theorem zr_188_27 : z_co 188 27 = (.getfield 249, 3, 12, 24, [1214]) := rfl
theorem zr_188_30 : z_co 188 30 = (.iconst 1, 1, 0, 0, []) := rfl
theorem zr_188_31 : z_co 188 31 = (.iadd, 1, 0, 0, []) := rfl
theorem zr_188_32 : z_co 188 32 = (.putfield 249, 3, 12, 24, [1214]) := rfl
theorem zr_188_35 : z_co 188 35 = (.aload_n 0, 1, 0, 0, []) := rfl
theorem zr_188_36 : z_co 188 36 = (.iload_n 1, 1, 0, 0, []) := rfl
theorem zr_188_37 : z_co 188 37 = (.iconst 0, 1, 0, 0, []) := rfl
theorem zr_188_38 : z_co 188 38 = (.invokevirtual 252, 3, 182, 0, [1537, 1539, 69]) := rfl
theorem zr_188_41 : z_co 188 41 = (.return_, 1, 0, 0, []) := rfl
theorem zr_189_0 : z_co 189 0 = (.aload_n 0, 1, 0, 0, []) := rfl
theorem zr_189_1 : z_co 189 1 = (.iload_n 1, 1, 0, 0, []) := rfl
theorem zr_189_2 : z_co 189 2 = (.ifCond .eq 16, 3, 0, 0, []) := rfl
theorem zr_189_5 : z_co 189 5 = (.aload_n 0, 1, 0, 0, []) := rfl
theorem zr_189_6 : z_co 189 6 = (.getfield 255, 3, 12, 20, [1210]) := rfl
theorem zr_189_9 : z_co 189 9 = (.bipush 50, 2, 0, 0, []) := rfl
theorem zr_189_11 : z_co 189 11 = (.if_icmp .ge 7, 3, 0, 0, []) := rfl
theorem zr_189_14 : z_co 189 14 = (.iconst 1, 1, 0, 0, []) := rfl
theorem zr_189_15 : z_co 189 15 = (.goto 4, 3, 0, 0, []) := rfl
theorem zr_189_18 : z_co 189 18 = (.iconst 0, 1, 0, 0, []) := rfl
theorem zr_189_19 : z_co 189 19 = (.invokevirtual 222, 3, 179, 0, [1524, 1526, 66]) := rfl
theorem zr_189_22 : z_co 189 22 = (.aload_n 0, 1, 0, 0, []) := rfl
theorem zr_189_23 : z_co 189 23 = (.getfield 187, 3, 12, 14, [1204]) := rfl
theorem zr_189_26 : z_co 189 26 = (.ifCond .ne 19, 3, 0, 0, []) := rfl
theorem zr_189_29 : z_co 189 29 = (.aload_n 0, 1, 0, 0, []) := rfl
theorem zr_189_30 : z_co 189 30 = (.iload_n 2, 1, 0, 0, []) := rfl
theorem zr_189_31 : z_co 189 31 = (.iload_n 3, 1, 0, 0, []) := rfl
theorem zr_189_32 : z_co 189 32 = (.invokevirtual 235, 3, 181, 0, [1562, 1564, 75]) := rfl
theorem zr_189_35 : z_co 189 35 = (.aload_n 0, 1, 0, 0, []) := rfl
theorem zr_189_36 : z_co 189 36 = (.dup, 1, 0, 0, []) := rfl
theorem zr_189_37 : z_co 189 37 = (.getfield 255, 3, 12, 20, [1210]) := rfl
theorem zr_189_40 : z_co 189 40 = (.iconst 1, 1, 0, 0, []) := rfl
theorem zr_189_41 : z_co 189 41 = (.iadd, 1, 0, 0, []) := rfl
theorem zr_189_42 : z_co 189 42 = (.putfield 255, 3, 12, 20, [1210]) := rfl
theorem zr_189_45 : z_co 189 45 = (.return_, 1, 0, 0, []) := rfl
theorem zr_190_0 : z_co 190 0 = (.aload_n 0, 1, 0, 0, []) := rfl
theorem zr_190_1 : z_co 190 1 = (.bipush 91, 2, 0, 0, []) := rfl
theorem zr_190_3 : z_co 190 3 = (.invokevirtual 258, 3, 178, 0, [1541, 1543, 70]) := rfl
theorem zr_190_6 : z_co 190 6 = (.ifCond .eq 11, 3, 0, 0, []) := rfl
theorem zr_190_9 : z_co 190 9 = (.aload_n 0, 1, 0, 0, []) := rfl
theorem zr_190_10 : z_co 190 10 = (.bipush 31, 2, 0, 0, []) := rfl
theorem zr_190_12 : z_co 190 12 = (.invokevirtual 261, 3, 188, 0, [1545, 1547, 71]) := rfl
theorem zr_190_15 : z_co 190 15 = (.iconst 1, 1, 0, 0, []) := rfl
theorem zr_190_16 : z_co 190 16 = (.ireturn, 1, 0, 0, []) := rfl
theorem zr_190_17 : z_co 190 17 = (.aload_n 0, 1, 0, 0, []) := rfl
theorem zr_190_18 : z_co 190 18 = (.invokevirtual 264, 3, 187, 0, [1553, 1555, 73]) := rfl
theorem zr_190_21 : z_co 190 21 = (.istore_n 1, 1, 0, 0, []) := rfl
theorem zr_190_22 : z_co 190 22 = (.aload_n 0, 1, 0, 0, []) := rfl
theorem zr_190_23 : z_co 190 23 = (.getfield 207, 3, 12, 11, [1201]) := rfl
theorem zr_190_26 : z_co 190 26 = (.iconst 2, 1, 0, 0, []) := rfl
theorem zr_190_27 : z_co 190 27 = (.if_icmp .ne 18, 3, 0, 0, []) := rfl
theorem zr_190_30 : z_co 190 30 = (.aload_n 0, 1, 0, 0, []) := rfl
theorem zr_190_31 : z_co 190 31 = (.getfield 197, 3, 12, 12, [1202]) := rfl
theorem zr_190_34 : z_co 190 34 = (.ldc2_w 267, 3, 1000, 0, [1557]) := rfl
theorem zr_190_37 : z_co 190 37 = (.lcmp, 1, 0, 0, []) := rfl
theorem zr_190_38 : z_co 190 38 = (.ifCond .gt 7, 3, 0, 0, []) := rfl
theorem zr_190_41 : z_co 190 41 = (.iconst 1, 1, 0, 0, []) := rfl
theorem zr_190_42 : z_co 190 42 = (.goto 4, 3, 0, 0, []) := rfl
theorem zr_190_45 : z_co 190 45 = (.iconst 0, 1, 0, 0, []) := rfl
theorem zr_190_46 : z_co 190 46 = (.istore_n 2, 1, 0, 0, []) := rfl
theorem zr_190_47 : z_co 190 47 = (.aload_n 0, 1, 0, 0, []) := rfl
theorem zr_190_48 : z_co 190 48 = (.iload_n 1, 1, 0, 0, []) := rfl
theorem zr_190_49 : z_co 190 49 = (.iconst (-1), 1, 0, 0, []) := rfl
theorem zr_190_50 : z_co 190 50 = (.if_icmp .ne 7, 3, 0, 0, []) := rfl
theorem zr_190_53 : z_co 190 53 = (.iload_n 2, 1, 0, 0, []) := rfl
theorem zr_190_54 : z_co 190 54 = (.ifCond .eq 7, 3, 0, 0, []) := rfl
theorem zr_190_57 : z_co 190 57 = (.iconst 1, 1, 0, 0, []) := rfl
theorem zr_190_58 : z_co 190 58 = (.goto 4, 3, 0, 0, []) := rfl
theorem zr_190_61 : z_co 190 61 = (.iconst 0, 1, 0, 0, []) := rfl
theorem zr_190_62 : z_co 190 62 = (.iload_n 1, 1, 0, 0, []) := rfl
theorem zr_190_63 : z_co 190 63 = (.iconst (-1), 1, 0, 0, []) := rfl
theorem zr_190_64 : z_co 190 64 = (.if_icmp .ne 7, 3, 0, 0, []) := rfl
theorem zr_190_67 : z_co 190 67 = (.iconst 0, 1, 0, 0, []) := rfl
theorem zr_190_68 : z_co 190 68 = (.goto 4, 3, 0, 0, []) := rfl
theorem zr_190_71 : z_co 190 71 = (.iload_n 1, 1, 0, 0, []) := rfl
theorem zr_190_72 : z_co 190 72 = (.iload_n 2, 1, 0, 0, []) := rfl
theorem zr_190_73 : z_co 190 73 = (.ifCond .eq 11, 3, 0, 0, []) := rfl
theorem zr_190_76 : z_co 190 76 = (.aload_n 0, 1, 0, 0, []) := rfl
theorem zr_190_77 : z_co 190 77 = (.getfield 197, 3, 12, 12, [1202]) := rfl
theorem zr_190_80 : z_co 190 80 = (.l2i, 1, 0, 0, []) := rfl
theorem zr_190_81 : z_co 190 81 = (.goto 4, 3, 0, 0, []) := rfl
theorem zr_190_84 : z_co 190 84 = (.iconst 0, 1, 0, 0, []) := rfl
theorem zr_190_85 : z_co 190 85 = (.invokevirtual 269, 3, 189, 0, [1558, 1560, 74]) := rfl
theorem zr_190_88 : z_co 190 88 = (.iconst 3, 1, 0, 0, []) := rfl
theorem zr_190_89 : z_co 190 89 = (.ireturn, 1, 0, 0, []) := rfl
theorem zr_191_0 : z_co 191 0 = (.aload_n 0, 1, 0, 0, []) := rfl
theorem zr_191_1 : z_co 191 1 = (.ldc2_w 273, 3, 14836, 0, [1536]) := rfl
theorem zr_191_4 : z_co 191 4 = (.invokevirtual 245, 3, 177, 0, [1519, 1521, 65]) := rfl
theorem zr_191_7 : z_co 191 7 = (.ifCond .eq 16, 3, 0, 0, []) := rfl
theorem zr_191_10 : z_co 191 10 = (.aload_n 0, 1, 0, 0, []) := rfl
theorem zr_191_11 : z_co 191 11 = (.bipush 27, 2, 0, 0, []) := rfl
theorem zr_191_13 : z_co 191 13 = (.iconst 0, 1, 0, 0, []) := rfl
theorem zr_191_14 : z_co 191 14 = (.invokevirtual 252, 3, 182, 0, [1537, 1539, 69]) := rfl
theorem zr_191_17 : z_co 191 17 = (.aload_n 0, 1, 0, 0, []) := rfl
theorem zr_191_18 : z_co 191 18 = (.invokevirtual 191, 3, 176, 0, [1499, 1501, 63]) := rfl
theorem zr_191_21 : z_co 191 21 = (.iconst 0, 1, 0, 0, []) := rfl
theorem zr_191_22 : z_co 191 22 = (.ireturn, 1, 0, 0, []) := rfl
theorem zr_191_23 : z_co 191 23 = (.aload_n 0, 1, 0, 0, []) := rfl
theorem zr_191_24 : z_co 191 24 = (.bipush 40, 2, 0, 0, []) := rfl
theorem zr_191_26 : z_co 191 26 = (.invokevirtual 258, 3, 178, 0, [1541, 1543, 70]) := rfl
theorem zr_191_29 : z_co 191 29 = (.ifCond .eq 11, 3, 0, 0, []) := rfl
theorem zr_191_32 : z_co 191 32 = (.aload_n 0, 1, 0, 0, []) := rfl
theorem zr_191_33 : z_co 191 33 = (.bipush 30, 2, 0, 0, []) := rfl
theorem zr_191_35 : z_co 191 35 = (.invokevirtual 261, 3, 188, 0, [1545, 1547, 71]) := rfl
theorem zr_191_38 : z_co 191 38 = (.iconst 0, 1, 0, 0, []) := rfl
theorem zr_191_39 : z_co 191 39 = (.ireturn, 1, 0, 0, []) := rfl
theorem zr_191_40 : z_co 191 40 = (.aload_n 0, 1, 0, 0, []) := rfl
theorem zr_191_41 : z_co 191 41 = (.invokevirtual 275, 3, 190, 0, [1549, 1551, 72]) := rfl
theorem zr_191_44 : z_co 191 44 = (.ireturn, 1, 0, 0, []) := rfl
theorem zr_192_0 : z_co 192 0 = (.aload_n 0, 1, 0, 0, []) := rfl
theorem zr_192_1 : z_co 192 1 = (.bipush 43, 2, 0, 0, []) := rfl
theorem zr_192_3 : z_co 192 3 = (.invokevirtual 258, 3, 178, 0, [1541, 1543, 70]) := rfl
theorem zr_192_6 : z_co 192 6 = (.ifCond .eq 8, 3, 0, 0, []) := rfl
theorem zr_192_9 : z_co 192 9 = (.bipush 20, 2, 0, 0, []) := rfl
theorem zr_192_11 : z_co 192 11 = (.goto 46, 3, 0, 0, []) := rfl
theorem zr_192_14 : z_co 192 14 = (.aload_n 0, 1, 0, 0, []) := rfl
theorem zr_192_15 : z_co 192 15 = (.bipush 45, 2, 0, 0, []) := rfl
theorem zr_192_17 : z_co 192 17 = (.invokevirtual 258, 3, 178, 0, [1541, 1543, 70]) := rfl
theorem zr_192_20 : z_co 192 20 = (.ifCond .eq 8, 3, 0, 0, []) := rfl
theorem zr_192_23 : z_co 192 23 = (.bipush 21, 2, 0, 0, []) := rfl
theorem zr_192_25 : z_co 192 25 = (.goto 32, 3, 0, 0, []) := rfl
theorem zr_192_28 : z_co 192 28 = (.aload_n 0, 1, 0, 0, []) := rfl
theorem zr_192_29 : z_co 192 29 = (.bipush 42, 2, 0, 0, []) := rfl
theorem zr_192_31 : z_co 192 31 = (.invokevirtual 258, 3, 178, 0, [1541, 1543, 70]) := rfl
theorem zr_192_34 : z_co 192 34 = (.ifCond .eq 8, 3, 0, 0, []) := rfl
theorem zr_192_37 : z_co 192 37 = (.bipush 22, 2, 0, 0, []) := rfl
theorem zr_192_39 : z_co 192 39 = (.goto 18, 3, 0, 0, []) := rfl
theorem zr_192_42 : z_co 192 42 = (.aload_n 0, 1, 0, 0, []) := rfl
theorem zr_192_43 : z_co 192 43 = (.bipush 47, 2, 0, 0, []) := rfl
theorem zr_192_45 : z_co 192 45 = (.invokevirtual 258, 3, 178, 0, [1541, 1543, 70]) := rfl
theorem zr_192_48 : z_co 192 48 = (.ifCond .eq 8, 3, 0, 0, []) := rfl
theorem zr_192_51 : z_co 192 51 = (.bipush 23, 2, 0, 0, []) := rfl
theorem zr_192_53 : z_co 192 53 = (.goto 4, 3, 0, 0, []) := rfl
theorem zr_192_56 : z_co 192 56 = (.iconst (-1), 1, 0, 0, []) := rfl
theorem zr_192_57 : z_co 192 57 = (.istore_n 2, 1, 0, 0, []) := rfl
theorem zr_192_58 : z_co 192 58 = (.iload_n 2, 1, 0, 0, []) := rfl
theorem zr_192_59 : z_co 192 59 = (.iconst (-1), 1, 0, 0, []) := rfl
theorem zr_192_60 : z_co 192 60 = (.if_icmp .eq 23, 3, 0, 0, []) := rfl
theorem zr_192_63 : z_co 192 63 = (.aload_n 0, 1, 0, 0, []) := rfl
theorem zr_192_64 : z_co 192 64 = (.iload_n 2, 1, 0, 0, []) := rfl
theorem zr_192_65 : z_co 192 65 = (.invokestatic 232, 3, 183, 0, [1570, 1571]) := rfl
theorem zr_192_68 : z_co 192 68 = (.invokevirtual 278, 3, 184, 0, [1573, 1575, 77]) := rfl
theorem zr_192_71 : z_co 192 71 = (.aload_n 0, 1, 0, 0, []) := rfl
theorem zr_192_72 : z_co 192 72 = (.iload_n 2, 1, 0, 0, []) := rfl
theorem zr_192_73 : z_co 192 73 = (.iconst 0, 1, 0, 0, []) := rfl
theorem zr_192_74 : z_co 192 74 = (.invokevirtual 252, 3, 182, 0, [1537, 1539, 69]) := rfl
theorem zr_192_77 : z_co 192 77 = (.aload_n 0, 1, 0, 0, []) := rfl
theorem zr_192_78 : z_co 192 78 = (.invokevirtual 191, 3, 176, 0, [1499, 1501, 63]) := rfl
theorem zr_192_81 : z_co 192 81 = (.iconst 1, 1, 0, 0, []) := rfl
theorem zr_192_82 : z_co 192 82 = (.ireturn, 1, 0, 0, []) := rfl
theorem zr_192_83 : z_co 192 83 = (.aload_n 0, 1, 0, 0, []) := rfl
theorem zr_192_84 : z_co 192 84 = (.invokevirtual 281, 3, 185, 0, [1577, 1579, 78]) := rfl
theorem zr_192_87 : z_co 192 87 = (.istore_n 3, 1, 0, 0, []) := rfl
theorem zr_192_88 : z_co 192 88 = (.iload_n 3, 1, 0, 0, []) := rfl
theorem zr_192_89 : z_co 192 89 = (.bipush 31, 2, 0, 0, []) := rfl
theorem zr_192_91 : z_co 192 91 = (.if_icmp .ne 47, 3, 0, 0, []) := rfl
theorem zr_192_94 : z_co 192 94 = (.aload_n 0, 1, 0, 0, []) := rfl
theorem zr_192_95 : z_co 192 95 = (.aload_n 0, 1, 0, 0, []) := rfl
theorem zr_192_96 : z_co 192 96 = (.bipush 93, 2, 0, 0, []) := rfl
theorem zr_192_98 : z_co 192 98 = (.invokevirtual 258, 3, 178, 0, [1541, 1543, 70]) := rfl
theorem zr_192_101 : z_co 192 101 = (.invokevirtual 222, 3, 179, 0, [1524, 1526, 66]) := rfl
theorem zr_192_104 : z_co 192 104 = (.aload_n 0, 1, 0, 0, []) := rfl
theorem zr_192_105 : z_co 192 105 = (.getfield 187, 3, 12, 14, [1204]) := rfl
theorem zr_192_108 : z_co 192 108 = (.ifCond .ne 28, 3, 0, 0, []) := rfl
theorem zr_192_111 : z_co 192 111 = (.aload_n 0, 1, 0, 0, []) := rfl
theorem zr_192_112 : z_co 192 112 = (.iconst 5, 1, 0, 0, []) := rfl
theorem zr_192_113 : z_co 192 113 = (.invokevirtual 278, 3, 184, 0, [1573, 1575, 77]) := rfl
theorem zr_192_116 : z_co 192 116 = (.aload_n 0, 1, 0, 0, []) := rfl
theorem zr_192_117 : z_co 192 117 = (.dup, 1, 0, 0, []) := rfl
theorem zr_192_118 : z_co 192 118 = (.getfield 229, 3, 12, 23, [1213]) := rfl
theorem zr_192_121 : z_co 192 121 = (.iconst 1, 1, 0, 0, []) := rfl
theorem zr_192_122 : z_co 192 122 = (.isub, 1, 0, 0, []) := rfl
theorem zr_192_123 : z_co 192 123 = (.putfield 229, 3, 12, 23, [1213]) := rfl
theorem zr_192_126 : z_co 192 126 = (.aload_n 0, 1, 0, 0, []) := rfl
theorem zr_192_127 : z_co 192 127 = (.dup, 1, 0, 0, []) := rfl
theorem zr_192_128 : z_co 192 128 = (.getfield 249, 3, 12, 24, [1214]) := rfl
theorem zr_192_131 : z_co 192 131 = (.iconst 1, 1, 0, 0, []) := rfl
theorem zr_192_132 : z_co 192 132 = (.isub, 1, 0, 0, []) := rfl
theorem zr_192_133 : z_co 192 133 = (.putfield 249, 3, 12, 24, [1214]) := rfl
theorem zr_192_136 : z_co 192 136 = (.iconst 3, 1, 0, 0, []) := rfl
theorem zr_192_137 : z_co 192 137 = (.ireturn, 1, 0, 0, []) := rfl
theorem zr_192_138 : z_co 192 138 = (.iload_n 3, 1, 0, 0, []) := rfl
theorem zr_192_139 : z_co 192 139 = (.iconst (-1), 1, 0, 0, []) := rfl
theorem zr_192_140 : z_co 192 140 = (.if_icmp .ne 9, 3, 0, 0, []) := rfl
theorem zr_192_143 : z_co 192 143 = (.iload_n 1, 1, 0, 0, []) := rfl
theorem zr_192_144 : z_co 192 144 = (.ifCond .ne 5, 3, 0, 0, []) := rfl
theorem zr_192_147 : z_co 192 147 = (.iconst 4, 1, 0, 0, []) := rfl
theorem zr_192_148 : z_co 192 148 = (.ireturn, 1, 0, 0, []) := rfl
theorem zr_192_149 : z_co 192 149 = (.aload_n 0, 1, 0, 0, []) := rfl
theorem zr_192_150 : z_co 192 150 = (.invokevirtual 284, 3, 186, 0, [1581, 1583, 79]) := rfl
theorem zr_192_153 : z_co 192 153 = (.ifCond .eq 5, 3, 0, 0, []) := rfl
theorem zr_192_156 : z_co 192 156 = (.iconst 2, 1, 0, 0, []) := rfl
theorem zr_192_157 : z_co 192 157 = (.ireturn, 1, 0, 0, []) := rfl
theorem zr_192_158 : z_co 192 158 = (.aload_n 0, 1, 0, 0, []) := rfl
theorem zr_192_159 : z_co 192 159 = (.bipush 60, 2, 0, 0, []) := rfl
theorem zr_192_161 : z_co 192 161 = (.invokevirtual 258, 3, 178, 0, [1541, 1543, 70]) := rfl
theorem zr_192_164 : z_co 192 164 = (.ifCond .eq 8, 3, 0, 0, []) := rfl
theorem zr_192_167 : z_co 192 167 = (.bipush 24, 2, 0, 0, []) := rfl
theorem zr_192_169 : z_co 192 169 = (.goto 19, 3, 0, 0, []) := rfl
theorem zr_192_172 : z_co 192 172 = (.aload_n 0, 1, 0, 0, []) := rfl
theorem zr_192_173 : z_co 192 173 = (.bipush 62, 2, 0, 0, []) := rfl
theorem zr_192_175 : z_co 192 175 = (.invokevirtual 258, 3, 178, 0, [1541, 1543, 70]) := rfl
theorem zr_192_178 : z_co 192 178 = (.ifCond .eq 8, 3, 0, 0, []) := rfl
theorem zr_192_181 : z_co 192 181 = (.bipush 25, 2, 0, 0, []) := rfl
theorem zr_192_183 : z_co 192 183 = (.goto 5, 3, 0, 0, []) := rfl
theorem zr_192_186 : z_co 192 186 = (.bipush 26, 2, 0, 0, []) := rfl
theorem zr_192_188 : z_co 192 188 = (.istore_n 2, 1, 0, 0, []) := rfl
theorem zr_192_189 : z_co 192 189 = (.aload_n 0, 1, 0, 0, []) := rfl
theorem zr_192_190 : z_co 192 190 = (.iload_n 2, 1, 0, 0, []) := rfl
theorem zr_192_191 : z_co 192 191 = (.bipush 26, 2, 0, 0, []) := rfl
theorem zr_192_193 : z_co 192 193 = (.if_icmp .ne 12, 3, 0, 0, []) := rfl
theorem zr_192_196 : z_co 192 196 = (.aload_n 0, 1, 0, 0, []) := rfl
theorem zr_192_197 : z_co 192 197 = (.bipush 61, 2, 0, 0, []) := rfl
theorem zr_192_199 : z_co 192 199 = (.invokevirtual 258, 3, 178, 0, [1541, 1543, 70]) := rfl
theorem zr_192_202 : z_co 192 202 = (.ifCond .eq 7, 3, 0, 0, []) := rfl
theorem zr_192_205 : z_co 192 205 = (.iconst 1, 1, 0, 0, []) := rfl
theorem zr_192_206 : z_co 192 206 = (.goto 4, 3, 0, 0, []) := rfl
theorem zr_192_209 : z_co 192 209 = (.iconst 0, 1, 0, 0, []) := rfl
theorem zr_192_210 : z_co 192 210 = (.invokevirtual 222, 3, 179, 0, [1524, 1526, 66]) := rfl
theorem zr_192_213 : z_co 192 213 = (.aload_n 0, 1, 0, 0, []) := rfl
theorem zr_192_214 : z_co 192 214 = (.getfield 187, 3, 12, 14, [1204]) := rfl
theorem zr_192_217 : z_co 192 217 = (.ifCond .ne 14, 3, 0, 0, []) := rfl
theorem zr_192_220 : z_co 192 220 = (.aload_n 0, 1, 0, 0, []) := rfl
theorem zr_192_221 : z_co 192 221 = (.iconst 5, 1, 0, 0, []) := rfl
theorem zr_192_222 : z_co 192 222 = (.invokevirtual 278, 3, 184, 0, [1573, 1575, 77]) := rfl
theorem zr_192_225 : z_co 192 225 = (.aload_n 0, 1, 0, 0, []) := rfl
theorem zr_192_226 : z_co 192 226 = (.iload_n 2, 1, 0, 0, []) := rfl
theorem zr_192_227 : z_co 192 227 = (.iconst 0, 1, 0, 0, []) := rfl
theorem zr_192_228 : z_co 192 228 = (.invokevirtual 252, 3, 182, 0, [1537, 1539, 69]) := rfl
theorem zr_192_231 : z_co 192 231 = (.iconst 1, 1, 0, 0, []) := rfl
theorem zr_192_232 : z_co 192 232 = (.ireturn, 1, 0, 0, []) := rfl
theorem zr_193_0 : z_co 193 0 = (.aload_n 0, 1, 0, 0, []) := rfl
theorem zr_193_1 : z_co 193 1 = (.ldc2_w 288, 3, 1476, 0, [1592]) := rfl
theorem zr_193_4 : z_co 193 4 = (.invokevirtual 245, 3, 177, 0, [1519, 1521, 65]) := rfl
theorem zr_193_7 : z_co 193 7 = (.istore_n 1, 1, 0, 0, []) := rfl
theorem zr_193_8 : z_co 193 8 = (.iload_n 1, 1, 0, 0, []) := rfl
theorem zr_193_9 : z_co 193 9 = (.ifCond .ne 13, 3, 0, 0, []) := rfl
theorem zr_193_12 : z_co 193 12 = (.aload_n 0, 1, 0, 0, []) := rfl
theorem zr_193_13 : z_co 193 13 = (.ldc2_w 290, 3, 498, 0, [1593]) := rfl
theorem zr_193_16 : z_co 193 16 = (.invokevirtual 245, 3, 177, 0, [1519, 1521, 65]) := rfl
theorem zr_193_19 : z_co 193 19 = (.ifCond .eq 57, 3, 0, 0, []) := rfl
theorem zr_193_22 : z_co 193 22 = (.aload_n 0, 1, 0, 0, []) := rfl
theorem zr_193_23 : z_co 193 23 = (.iload_n 1, 1, 0, 0, []) := rfl
theorem zr_193_24 : z_co 193 24 = (.ifCond .eq 7, 3, 0, 0, []) := rfl
theorem zr_193_27 : z_co 193 27 = (.iconst 2, 1, 0, 0, []) := rfl
theorem zr_193_28 : z_co 193 28 = (.goto 4, 3, 0, 0, []) := rfl
theorem zr_193_31 : z_co 193 31 = (.iconst 1, 1, 0, 0, []) := rfl
theorem zr_193_32 : z_co 193 32 = (.invokevirtual 278, 3, 184, 0, [1573, 1575, 77]) := rfl
theorem zr_193_35 : z_co 193 35 = (.aload_n 0, 1, 0, 0, []) := rfl
theorem zr_193_36 : z_co 193 36 = (.iload_n 1, 1, 0, 0, []) := rfl
theorem zr_193_37 : z_co 193 37 = (.ifCond .eq 8, 3, 0, 0, []) := rfl
theorem zr_193_40 : z_co 193 40 = (.bipush 28, 2, 0, 0, []) := rfl
theorem zr_193_42 : z_co 193 42 = (.goto 5, 3, 0, 0, []) := rfl
theorem zr_193_45 : z_co 193 45 = (.bipush 29, 2, 0, 0, []) := rfl
theorem zr_193_47 : z_co 193 47 = (.aload_n 0, 1, 0, 0, []) := rfl
theorem zr_193_48 : z_co 193 48 = (.getfield 226, 3, 12, 17, [1207]) := rfl
theorem zr_193_51 : z_co 193 51 = (.invokevirtual 252, 3, 182, 0, [1537, 1539, 69]) := rfl
theorem zr_193_54 : z_co 193 54 = (.aload_n 0, 1, 0, 0, []) := rfl
theorem zr_193_55 : z_co 193 55 = (.iload_n 1, 1, 0, 0, []) := rfl
theorem zr_193_56 : z_co 193 56 = (.ifCond .eq 8, 3, 0, 0, []) := rfl
theorem zr_193_59 : z_co 193 59 = (.bipush 28, 2, 0, 0, []) := rfl
theorem zr_193_61 : z_co 193 61 = (.goto 5, 3, 0, 0, []) := rfl
theorem zr_193_64 : z_co 193 64 = (.bipush 29, 2, 0, 0, []) := rfl
theorem zr_193_66 : z_co 193 66 = (.iconst 0, 1, 0, 0, []) := rfl
theorem zr_193_67 : z_co 193 67 = (.invokevirtual 235, 3, 181, 0, [1562, 1564, 75]) := rfl
theorem zr_193_70 : z_co 193 70 = (.aload_n 0, 1, 0, 0, []) := rfl
theorem zr_193_71 : z_co 193 71 = (.invokevirtual 191, 3, 176, 0, [1499, 1501, 63]) := rfl
theorem zr_193_74 : z_co 193 74 = (.iconst 0, 1, 0, 0, []) := rfl
theorem zr_193_75 : z_co 193 75 = (.ireturn, 1, 0, 0, []) := rfl
theorem zr_193_76 : z_co 193 76 = (.aload_n 0, 1, 0, 0, []) := rfl
theorem zr_193_77 : z_co 193 77 = (.invokevirtual 281, 3, 185, 0, [1577, 1579, 78]) := rfl
theorem zr_193_80 : z_co 193 80 = (.iconst (-1), 1, 0, 0, []) := rfl
theorem zr_193_81 : z_co 193 81 = (.if_icmp .ne 5, 3, 0, 0, []) := rfl
theorem zr_193_84 : z_co 193 84 = (.iconst 4, 1, 0, 0, []) := rfl
theorem zr_193_85 : z_co 193 85 = (.ireturn, 1, 0, 0, []) := rfl
theorem zr_193_86 : z_co 193 86 = (.aload_n 0, 1, 0, 0, []) := rfl
theorem zr_193_87 : z_co 193 87 = (.aload_n 0, 1, 0, 0, []) := rfl
theorem zr_193_88 : z_co 193 88 = (.bipush 41, 2, 0, 0, []) := rfl
theorem zr_193_90 : z_co 193 90 = (.invokevirtual 258, 3, 178, 0, [1541, 1543, 70]) := rfl
theorem zr_193_93 : z_co 193 93 = (.invokevirtual 222, 3, 179, 0, [1524, 1526, 66]) := rfl
theorem zr_193_96 : z_co 193 96 = (.aload_n 0, 1, 0, 0, []) := rfl
theorem zr_193_97 : z_co 193 97 = (.getfield 187, 3, 12, 14, [1204]) := rfl
theorem zr_193_100 : z_co 193 100 = (.ifCond .ne 28, 3, 0, 0, []) := rfl
theorem zr_193_103 : z_co 193 103 = (.aload_n 0, 1, 0, 0, []) := rfl
theorem zr_193_104 : z_co 193 104 = (.iconst 1, 1, 0, 0, []) := rfl
theorem zr_193_105 : z_co 193 105 = (.invokevirtual 278, 3, 184, 0, [1573, 1575, 77]) := rfl
theorem zr_193_108 : z_co 193 108 = (.aload_n 0, 1, 0, 0, []) := rfl
theorem zr_193_109 : z_co 193 109 = (.dup, 1, 0, 0, []) := rfl
theorem zr_193_110 : z_co 193 110 = (.getfield 229, 3, 12, 23, [1213]) := rfl
theorem zr_193_113 : z_co 193 113 = (.iconst 1, 1, 0, 0, []) := rfl
theorem zr_193_114 : z_co 193 114 = (.isub, 1, 0, 0, []) := rfl
theorem zr_193_115 : z_co 193 115 = (.putfield 229, 3, 12, 23, [1213]) := rfl
theorem zr_193_118 : z_co 193 118 = (.aload_n 0, 1, 0, 0, []) := rfl
theorem zr_193_119 : z_co 193 119 = (.dup, 1, 0, 0, []) := rfl
theorem zr_193_120 : z_co 193 120 = (.getfield 249, 3, 12, 24, [1214]) := rfl
theorem zr_193_123 : z_co 193 123 = (.iconst 1, 1, 0, 0, []) := rfl
theorem zr_193_124 : z_co 193 124 = (.isub, 1, 0, 0, []) := rfl
theorem zr_193_125 : z_co 193 125 = (.putfield 249, 3, 12, 24, [1214]) := rfl
theorem zr_193_128 : z_co 193 128 = (.iconst 2, 1, 0, 0, []) := rfl
theorem zr_193_129 : z_co 193 129 = (.ireturn, 1, 0, 0, []) := rfl
theorem zr_194_0 : z_co 194 0 = (.aload_n 0, 1, 0, 0, []) := rfl
theorem zr_194_1 : z_co 194 1 = (.iconst 0, 1, 0, 0, []) := rfl
theorem zr_194_2 : z_co 194 2 = (.putfield 229, 3, 12, 23, [1213]) := rfl
theorem zr_194_5 : z_co 194 5 = (.aload_n 0, 1, 0, 0, []) := rfl
theorem zr_194_6 : z_co 194 6 = (.iconst 0, 1, 0, 0, []) := rfl
theorem zr_194_7 : z_co 194 7 = (.putfield 249, 3, 12, 24, [1214]) := rfl
theorem zr_194_10 : z_co 194 10 = (.iload_n 1, 1, 0, 0, []) := rfl
theorem zr_194_11 : z_co 194 11 = (.ifCond .eq 7, 3, 0, 0, []) := rfl
theorem zr_194_14 : z_co 194 14 = (.iconst 0, 1, 0, 0, []) := rfl
theorem zr_194_15 : z_co 194 15 = (.goto 4, 3, 0, 0, []) := rfl
theorem zr_194_18 : z_co 194 18 = (.iconst 1, 1, 0, 0, []) := rfl
theorem zr_194_19 : z_co 194 19 = (.istore_n 2, 1, 0, 0, []) := rfl
theorem zr_194_20 : z_co 194 20 = (.aload_n 0, 1, 0, 0, []) := rfl
theorem zr_194_21 : z_co 194 21 = (.getfield 187, 3, 12, 14, [1204]) := rfl
theorem zr_194_24 : z_co 194 24 = (.ifCond .ne 52, 3, 0, 0, []) := rfl
theorem zr_194_27 : z_co 194 27 = (.iload_n 2, 1, 0, 0, []) := rfl
theorem zr_194_28 : z_co 194 28 = (.iconst 4, 1, 0, 0, []) := rfl
theorem zr_194_29 : z_co 194 29 = (.if_icmp .eq 47, 3, 0, 0, []) := rfl
theorem zr_194_32 : z_co 194 32 = (.iload_n 2, 1, 0, 0, []) := rfl
theorem zr_194_33 : z_co 194 33 = (.ifCond .ne 10, 3, 0, 0, []) := rfl
theorem zr_194_36 : z_co 194 36 = (.aload_n 0, 1, 0, 0, []) := rfl
theorem zr_194_37 : z_co 194 37 = (.invokevirtual 292, 3, 191, 0, [1532, 1534, 68]) := rfl
theorem zr_194_40 : z_co 194 40 = (.goto 32, 3, 0, 0, []) := rfl
theorem zr_194_43 : z_co 194 43 = (.iload_n 2, 1, 0, 0, []) := rfl
theorem zr_194_44 : z_co 194 44 = (.iconst 1, 1, 0, 0, []) := rfl
theorem zr_194_45 : z_co 194 45 = (.if_icmp .ne 10, 3, 0, 0, []) := rfl
theorem zr_194_48 : z_co 194 48 = (.aload_n 0, 1, 0, 0, []) := rfl
theorem zr_194_49 : z_co 194 49 = (.invokevirtual 275, 3, 190, 0, [1549, 1551, 72]) := rfl
theorem zr_194_52 : z_co 194 52 = (.goto 20, 3, 0, 0, []) := rfl
theorem zr_194_55 : z_co 194 55 = (.iload_n 2, 1, 0, 0, []) := rfl
theorem zr_194_56 : z_co 194 56 = (.iconst 3, 1, 0, 0, []) := rfl
theorem zr_194_57 : z_co 194 57 = (.if_icmp .ne 11, 3, 0, 0, []) := rfl
theorem zr_194_60 : z_co 194 60 = (.aload_n 0, 1, 0, 0, []) := rfl
theorem zr_194_61 : z_co 194 61 = (.iload_n 1, 1, 0, 0, []) := rfl
theorem zr_194_62 : z_co 194 62 = (.invokevirtual 295, 3, 192, 0, [1566, 1568, 76]) := rfl
theorem zr_194_65 : z_co 194 65 = (.goto 7, 3, 0, 0, []) := rfl
theorem zr_194_68 : z_co 194 68 = (.aload_n 0, 1, 0, 0, []) := rfl
theorem zr_194_69 : z_co 194 69 = (.invokevirtual 299, 3, 193, 0, [1588, 1590, 80]) := rfl
theorem zr_194_72 : z_co 194 72 = (.istore_n 2, 1, 0, 0, []) := rfl
theorem zr_194_73 : z_co 194 73 = (.goto (-53), 3, 0, 0, []) := rfl
theorem zr_194_76 : z_co 194 76 = (.aload_n 0, 1, 0, 0, []) := rfl
theorem zr_194_77 : z_co 194 77 = (.iconst 1, 1, 0, 0, []) := rfl
theorem zr_194_78 : z_co 194 78 = (.invokevirtual 278, 3, 184, 0, [1573, 1575, 77]) := rfl
theorem zr_194_81 : z_co 194 81 = (.return_, 1, 0, 0, []) := rfl
theorem zr_195_0 : z_co 195 0 = (.aload_n 0, 1, 0, 0, []) := rfl
theorem zr_195_1 : z_co 195 1 = (.ldc2_w 61, 3, 2262611, 0, [1189]) := rfl
theorem zr_195_4 : z_co 195 4 = (.invokevirtual 245, 3, 177, 0, [1519, 1521, 65]) := rfl
theorem zr_195_7 : z_co 195 7 = (.ifCond .eq 7, 3, 0, 0, []) := rfl
theorem zr_195_10 : z_co 195 10 = (.iconst 0, 1, 0, 0, []) := rfl
theorem zr_195_11 : z_co 195 11 = (.goto 18, 3, 0, 0, []) := rfl
theorem zr_195_14 : z_co 195 14 = (.aload_n 0, 1, 0, 0, []) := rfl
theorem zr_195_15 : z_co 195 15 = (.ldc2_w 302, 3, 67155, 0, [1523]) := rfl
theorem zr_195_18 : z_co 195 18 = (.invokevirtual 245, 3, 177, 0, [1519, 1521, 65]) := rfl
theorem zr_195_21 : z_co 195 21 = (.ifCond .eq 7, 3, 0, 0, []) := rfl
theorem zr_195_24 : z_co 195 24 = (.iconst 1, 1, 0, 0, []) := rfl
theorem zr_195_25 : z_co 195 25 = (.goto 4, 3, 0, 0, []) := rfl
theorem zr_195_28 : z_co 195 28 = (.iconst (-1), 1, 0, 0, []) := rfl
theorem zr_195_29 : z_co 195 29 = (.istore_n 1, 1, 0, 0, []) := rfl
theorem zr_195_30 : z_co 195 30 = (.aload_n 0, 1, 0, 0, []) := rfl
theorem zr_195_31 : z_co 195 31 = (.iload_n 1, 1, 0, 0, []) := rfl
theorem zr_195_32 : z_co 195 32 = (.iconst (-1), 1, 0, 0, []) := rfl
theorem zr_195_33 : z_co 195 33 = (.if_icmp .eq 16, 3, 0, 0, []) := rfl
theorem zr_195_36 : z_co 195 36 = (.aload_n 0, 1, 0, 0, []) := rfl
theorem zr_195_37 : z_co 195 37 = (.getfield 304, 3, 12, 15, [1205]) := rfl
theorem zr_195_40 : z_co 195 40 = (.bipush 12, 2, 0, 0, []) := rfl
theorem zr_195_42 : z_co 195 42 = (.if_icmp .ge 7, 3, 0, 0, []) := rfl
theorem zr_195_45 : z_co 195 45 = (.iconst 1, 1, 0, 0, []) := rfl
theorem zr_195_46 : z_co 195 46 = (.goto 4, 3, 0, 0, []) := rfl
theorem zr_195_49 : z_co 195 49 = (.iconst 0, 1, 0, 0, []) := rfl
theorem zr_195_50 : z_co 195 50 = (.invokevirtual 222, 3, 179, 0, [1524, 1526, 66]) := rfl
theorem zr_195_53 : z_co 195 53 = (.aload_n 0, 1, 0, 0, []) := rfl
theorem zr_195_54 : z_co 195 54 = (.getfield 187, 3, 12, 14, [1204]) := rfl
theorem zr_195_57 : z_co 195 57 = (.ifCond .eq 4, 3, 0, 0, []) := rfl
theorem zr_195_60 : z_co 195 60 = (.return_, 1, 0, 0, []) := rfl
theorem zr_195_61 : z_co 195 61 = (.bipush 8, 2, 0, 0, []) := rfl
theorem zr_195_63 : z_co 195 63 = (.aload_n 0, 1, 0, 0, []) := rfl
theorem zr_195_64 : z_co 195 64 = (.getfield 304, 3, 12, 15, [1205]) := rfl
theorem zr_195_67 : z_co 195 67 = (.imul, 1, 0, 0, []) := rfl
theorem zr_195_68 : z_co 195 68 = (.istore_n 2, 1, 0, 0, []) := rfl
theorem zr_195_69 : z_co 195 69 = (.iconst 0, 1, 0, 0, []) := rfl
theorem zr_195_70 : z_co 195 70 = (.istore_n 3, 1, 0, 0, []) := rfl
theorem zr_195_71 : z_co 195 71 = (.iload_n 3, 1, 0, 0, []) := rfl
theorem zr_195_72 : z_co 195 72 = (.bipush 8, 2, 0, 0, []) := rfl
theorem zr_195_74 : z_co 195 74 = (.if_icmp .ge 18, 3, 0, 0, []) := rfl
theorem zr_195_77 : z_co 195 77 = (.aload_n 0, 1, 0, 0, []) := rfl
theorem zr_195_78 : z_co 195 78 = (.getfield 30, 3, 12, 16, [1206]) := rfl
theorem zr_195_81 : z_co 195 81 = (.iload_n 2, 1, 0, 0, []) := rfl
theorem zr_195_82 : z_co 195 82 = (.iload_n 3, 1, 0, 0, []) := rfl
theorem zr_195_83 : z_co 195 83 = (.iadd, 1, 0, 0, []) := rfl
theorem zr_195_84 : z_co 195 84 = (.iconst 0, 1, 0, 0, []) := rfl
theorem zr_195_85 : z_co 195 85 = (.iastore, 1, 0, 0, []) := rfl
theorem zr_195_86 : z_co 195 86 = (.iinc 3 1, 3, 0, 0, []) := rfl
theorem zr_195_89 : z_co 195 89 = (.goto (-18), 3, 0, 0, []) := rfl
theorem zr_195_92 : z_co 195 92 = (.aload_n 0, 1, 0, 0, []) := rfl
theorem zr_195_93 : z_co 195 93 = (.getfield 30, 3, 12, 16, [1206]) := rfl
theorem zr_195_96 : z_co 195 96 = (.iload_n 2, 1, 0, 0, []) := rfl
theorem zr_195_97 : z_co 195 97 = (.iload_n 1, 1, 0, 0, []) := rfl
theorem zr_195_98 : z_co 195 98 = (.iastore, 1, 0, 0, []) := rfl
theorem zr_195_99 : z_co 195 99 = (.aload_n 0, 1, 0, 0, []) := rfl
theorem zr_195_100 : z_co 195 100 = (.dup, 1, 0, 0, []) := rfl
theorem zr_195_101 : z_co 195 101 = (.getfield 304, 3, 12, 15, [1205]) := rfl
theorem zr_195_104 : z_co 195 104 = (.iconst 1, 1, 0, 0, []) := rfl
theorem zr_195_105 : z_co 195 105 = (.iadd, 1, 0, 0, []) := rfl
theorem zr_195_106 : z_co 195 106 = (.putfield 304, 3, 12, 15, [1205]) := rfl
theorem zr_195_109 : z_co 195 109 = (.aload_n 0, 1, 0, 0, []) := rfl
theorem zr_195_110 : z_co 195 110 = (.getfield 30, 3, 12, 16, [1206]) := rfl
theorem zr_195_113 : z_co 195 113 = (.iload_n 2, 1, 0, 0, []) := rfl
theorem zr_195_114 : z_co 195 114 = (.iconst 3, 1, 0, 0, []) := rfl
theorem zr_195_115 : z_co 195 115 = (.iadd, 1, 0, 0, []) := rfl
theorem zr_195_116 : z_co 195 116 = (.aload_n 0, 1, 0, 0, []) := rfl
theorem zr_195_117 : z_co 195 117 = (.getfield 226, 3, 12, 17, [1207]) := rfl
theorem zr_195_120 : z_co 195 120 = (.iastore, 1, 0, 0, []) := rfl
theorem zr_195_121 : z_co 195 121 = (.iload_n 1, 1, 0, 0, []) := rfl
theorem zr_195_122 : z_co 195 122 = (.ifCond .ne 8, 3, 0, 0, []) := rfl
theorem zr_195_125 : z_co 195 125 = (.aload_n 0, 1, 0, 0, []) := rfl
theorem zr_195_126 : z_co 195 126 = (.iconst 0, 1, 0, 0, []) := rfl
theorem zr_195_127 : z_co 195 127 = (.invokevirtual 307, 3, 194, 0, [1528, 1530, 67]) := rfl
theorem zr_195_130 : z_co 195 130 = (.aload_n 0, 1, 0, 0, []) := rfl
theorem zr_195_131 : z_co 195 131 = (.getfield 30, 3, 12, 16, [1206]) := rfl
theorem zr_195_134 : z_co 195 134 = (.iload_n 2, 1, 0, 0, []) := rfl
theorem zr_195_135 : z_co 195 135 = (.iconst 4, 1, 0, 0, []) := rfl
theorem zr_195_136 : z_co 195 136 = (.iadd, 1, 0, 0, []) := rfl
theorem zr_195_137 : z_co 195 137 = (.aload_n 0, 1, 0, 0, []) := rfl
theorem zr_195_138 : z_co 195 138 = (.getfield 226, 3, 12, 17, [1207]) := rfl
theorem zr_195_141 : z_co 195 141 = (.iastore, 1, 0, 0, []) := rfl
theorem zr_195_142 : z_co 195 142 = (.aload_n 0, 1, 0, 0, []) := rfl
theorem zr_195_143 : z_co 195 143 = (.getfield 30, 3, 12, 16, [1206]) := rfl
theorem zr_195_146 : z_co 195 146 = (.iload_n 2, 1, 0, 0, []) := rfl
theorem zr_195_147 : z_co 195 147 = (.iconst 5, 1, 0, 0, []) := rfl
theorem zr_195_148 : z_co 195 148 = (.iadd, 1, 0, 0, []) := rfl
theorem zr_195_149 : z_co 195 149 = (.aload_n 0, 1, 0, 0, []) := rfl
theorem zr_195_150 : z_co 195 150 = (.getfield 226, 3, 12, 17, [1207]) := rfl
theorem zr_195_153 : z_co 195 153 = (.iastore, 1, 0, 0, []) := rfl
theorem zr_195_154 : z_co 195 154 = (.aload_n 0, 1, 0, 0, []) := rfl
theorem zr_195_155 : z_co 195 155 = (.getfield 187, 3, 12, 14, [1204]) := rfl
theorem zr_195_158 : z_co 195 158 = (.ifCond .ne 22, 3, 0, 0, []) := rfl
theorem zr_195_161 : z_co 195 161 = (.aload_n 0, 1, 0, 0, []) := rfl
theorem zr_195_162 : z_co 195 162 = (.ldc2_w 310, 3, 294, 0, [1594]) := rfl
theorem zr_195_165 : z_co 195 165 = (.invokevirtual 245, 3, 177, 0, [1519, 1521, 65]) := rfl
theorem zr_195_168 : z_co 195 168 = (.ifCond .eq 12, 3, 0, 0, []) := rfl
theorem zr_195_171 : z_co 195 171 = (.aload_n 0, 1, 0, 0, []) := rfl
theorem zr_195_172 : z_co 195 172 = (.invokevirtual 191, 3, 176, 0, [1499, 1501, 63]) := rfl
theorem zr_195_175 : z_co 195 175 = (.aload_n 0, 1, 0, 0, []) := rfl
theorem zr_195_176 : z_co 195 176 = (.iconst 1, 1, 0, 0, []) := rfl
theorem zr_195_177 : z_co 195 177 = (.invokevirtual 307, 3, 194, 0, [1528, 1530, 67]) := rfl
theorem zr_195_180 : z_co 195 180 = (.aload_n 0, 1, 0, 0, []) := rfl
theorem zr_195_181 : z_co 195 181 = (.getfield 30, 3, 12, 16, [1206]) := rfl
theorem zr_195_184 : z_co 195 184 = (.iload_n 2, 1, 0, 0, []) := rfl
theorem zr_195_185 : z_co 195 185 = (.bipush 6, 2, 0, 0, []) := rfl
theorem zr_195_187 : z_co 195 187 = (.iadd, 1, 0, 0, []) := rfl
theorem zr_195_188 : z_co 195 188 = (.aload_n 0, 1, 0, 0, []) := rfl
theorem zr_195_189 : z_co 195 189 = (.getfield 226, 3, 12, 17, [1207]) := rfl
theorem zr_195_192 : z_co 195 192 = (.iastore, 1, 0, 0, []) := rfl
theorem zr_195_193 : z_co 195 193 = (.return_, 1, 0, 0, []) := rfl
