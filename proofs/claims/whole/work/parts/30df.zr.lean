/-! the rows: printed by a program -/
theorem zr_106_0 : z_co 106 0 = (.aload_n 0, 1, 0, 0, []) := rfl
theorem zr_106_1 : z_co 106 1 = (.getfield 12, 3, 11, 0, [440]) := rfl
theorem zr_106_4 : z_co 106 4 = (.iload_n 1, 1, 0, 0, []) := rfl
theorem zr_106_5 : z_co 106 5 = (.invokevirtual 135, 3, 76, 0, [556, 557, 558]) := rfl
theorem zr_106_8 : z_co 106 8 = (.ifCond .ne 5, 3, 0, 0, []) := rfl
theorem zr_106_11 : z_co 106 11 = (.iconst (-1), 1, 0, 0, []) := rfl
theorem zr_106_12 : z_co 106 12 = (.ireturn, 1, 0, 0, []) := rfl
theorem zr_106_13 : z_co 106 13 = (.aload_n 0, 1, 0, 0, []) := rfl
theorem zr_106_14 : z_co 106 14 = (.iload_n 1, 1, 0, 0, []) := rfl
theorem zr_106_15 : z_co 106 15 = (.invokevirtual 179, 3, 138, 0, [830, 832, 28]) := rfl
theorem zr_106_18 : z_co 106 18 = (.aload_n 0, 1, 0, 0, []) := rfl
theorem zr_106_19 : z_co 106 19 = (.getfield 48, 3, 11, 6, [446]) := rfl
theorem zr_106_22 : z_co 106 22 = (.iload_n 1, 1, 0, 0, []) := rfl
theorem zr_106_23 : z_co 106 23 = (.invokevirtual 182, 3, 53, 0, [858, 859, 860]) := rfl
theorem zr_106_26 : z_co 106 26 = (.iconst 1, 1, 0, 0, []) := rfl
theorem zr_106_27 : z_co 106 27 = (.ishr, 1, 0, 0, []) := rfl
theorem zr_106_28 : z_co 106 28 = (.ireturn, 1, 0, 0, []) := rfl
theorem zr_107_0 : z_co 107 0 = (.aload_n 0, 1, 0, 0, []) := rfl
theorem zr_107_1 : z_co 107 1 = (.getfield 12, 3, 11, 0, [440]) := rfl
theorem zr_107_4 : z_co 107 4 = (.iload_n 1, 1, 0, 0, []) := rfl
theorem zr_107_5 : z_co 107 5 = (.invokevirtual 135, 3, 76, 0, [556, 557, 558]) := rfl
theorem zr_107_8 : z_co 107 8 = (.ifCond .eq 14, 3, 0, 0, []) := rfl
theorem zr_107_11 : z_co 107 11 = (.aload_n 0, 1, 0, 0, []) := rfl
theorem zr_107_12 : z_co 107 12 = (.getfield 12, 3, 11, 0, [440]) := rfl
theorem zr_107_15 : z_co 107 15 = (.iload_n 2, 1, 0, 0, []) := rfl
theorem zr_107_16 : z_co 107 16 = (.invokevirtual 106, 3, 75, 0, [523, 524, 525]) := rfl
theorem zr_107_19 : z_co 107 19 = (.ifCond .ne 5, 3, 0, 0, []) := rfl
theorem zr_107_22 : z_co 107 22 = (.iconst (-1), 1, 0, 0, []) := rfl
theorem zr_107_23 : z_co 107 23 = (.ireturn, 1, 0, 0, []) := rfl
theorem zr_107_24 : z_co 107 24 = (.aload_n 0, 1, 0, 0, []) := rfl
theorem zr_107_25 : z_co 107 25 = (.iload_n 1, 1, 0, 0, []) := rfl
theorem zr_107_26 : z_co 107 26 = (.invokevirtual 179, 3, 138, 0, [830, 832, 28]) := rfl
theorem zr_107_29 : z_co 107 29 = (.aload_n 0, 1, 0, 0, []) := rfl
theorem zr_107_30 : z_co 107 30 = (.getfield 48, 3, 11, 6, [446]) := rfl
theorem zr_107_33 : z_co 107 33 = (.iload_n 1, 1, 0, 0, []) := rfl
theorem zr_107_34 : z_co 107 34 = (.iload_n 2, 1, 0, 0, []) := rfl
theorem zr_107_35 : z_co 107 35 = (.iconst 1, 1, 0, 0, []) := rfl
theorem zr_107_36 : z_co 107 36 = (.iadd, 1, 0, 0, []) := rfl
theorem zr_107_37 : z_co 107 37 = (.invokevirtual 185, 3, 56, 0, [870, 871, 872]) := rfl
theorem zr_107_40 : z_co 107 40 = (.istore 4, 2, 0, 0, []) := rfl
theorem zr_107_42 : z_co 107 42 = (.iload_n 3, 1, 0, 0, []) := rfl
theorem zr_107_43 : z_co 107 43 = (.iconst (-1), 1, 0, 0, []) := rfl
theorem zr_107_44 : z_co 107 44 = (.if_icmp .ne 6, 3, 0, 0, []) := rfl
theorem zr_107_47 : z_co 107 47 = (.iload 4, 2, 0, 0, []) := rfl
theorem zr_107_49 : z_co 107 49 = (.ireturn, 1, 0, 0, []) := rfl
theorem zr_107_50 : z_co 107 50 = (.iload_n 3, 1, 0, 0, []) := rfl
theorem zr_107_51 : z_co 107 51 = (.iconst 0, 1, 0, 0, []) := rfl
theorem zr_107_52 : z_co 107 52 = (.iload 4, 2, 0, 0, []) := rfl
theorem zr_107_54 : z_co 107 54 = (.iconst 1, 1, 0, 0, []) := rfl
theorem zr_107_55 : z_co 107 55 = (.isub, 1, 0, 0, []) := rfl
theorem zr_107_56 : z_co 107 56 = (.invokestatic 121, 3, 133, 0, [496, 497]) := rfl
theorem zr_107_59 : z_co 107 59 = (.ifCond .eq 15, 3, 0, 0, []) := rfl
theorem zr_107_62 : z_co 107 62 = (.aload_n 0, 1, 0, 0, []) := rfl
theorem zr_107_63 : z_co 107 63 = (.getfield 48, 3, 11, 6, [446]) := rfl
theorem zr_107_66 : z_co 107 66 = (.getfield 188, 3, 7, 6, [312]) := rfl
theorem zr_107_69 : z_co 107 69 = (.iload_n 3, 1, 0, 0, []) := rfl
theorem zr_107_70 : z_co 107 70 = (.iaload, 1, 0, 0, []) := rfl
theorem zr_107_71 : z_co 107 71 = (.goto 4, 3, 0, 0, []) := rfl
theorem zr_107_74 : z_co 107 74 = (.iconst (-1), 1, 0, 0, []) := rfl
theorem zr_107_75 : z_co 107 75 = (.ireturn, 1, 0, 0, []) := rfl
theorem zr_108_0 : z_co 108 0 = (.iload_n 2, 1, 0, 0, []) := rfl
theorem zr_108_1 : z_co 108 1 = (.iconst 0, 1, 0, 0, []) := rfl
theorem zr_108_2 : z_co 108 2 = (.iconst 3, 1, 0, 0, []) := rfl
theorem zr_108_3 : z_co 108 3 = (.invokestatic 121, 3, 133, 0, [496, 497]) := rfl
theorem zr_108_6 : z_co 108 6 = (.ifCond .eq 13, 3, 0, 0, []) := rfl
theorem zr_108_9 : z_co 108 9 = (.aload_n 0, 1, 0, 0, []) := rfl
theorem zr_108_10 : z_co 108 10 = (.iconst 0, 1, 0, 0, []) := rfl
theorem zr_108_11 : z_co 108 11 = (.iload_n 1, 1, 0, 0, []) := rfl
theorem zr_108_12 : z_co 108 12 = (.iload_n 2, 1, 0, 0, []) := rfl
theorem zr_108_13 : z_co 108 13 = (.invokevirtual 191, 3, 141, 0, [886, 888, 31]) := rfl
theorem zr_108_16 : z_co 108 16 = (.goto 4, 3, 0, 0, []) := rfl
theorem zr_108_19 : z_co 108 19 = (.iconst (-1), 1, 0, 0, []) := rfl
theorem zr_108_20 : z_co 108 20 = (.ireturn, 1, 0, 0, []) := rfl
theorem zr_109_0 : z_co 109 0 = (.iload_n 2, 1, 0, 0, []) := rfl
theorem zr_109_1 : z_co 109 1 = (.iconst 0, 1, 0, 0, []) := rfl
theorem zr_109_2 : z_co 109 2 = (.iconst 2, 1, 0, 0, []) := rfl
theorem zr_109_3 : z_co 109 3 = (.invokestatic 121, 3, 133, 0, [496, 497]) := rfl
theorem zr_109_6 : z_co 109 6 = (.ifCond .eq 13, 3, 0, 0, []) := rfl
theorem zr_109_9 : z_co 109 9 = (.aload_n 0, 1, 0, 0, []) := rfl
theorem zr_109_10 : z_co 109 10 = (.iconst 1, 1, 0, 0, []) := rfl
theorem zr_109_11 : z_co 109 11 = (.iload_n 1, 1, 0, 0, []) := rfl
theorem zr_109_12 : z_co 109 12 = (.iload_n 2, 1, 0, 0, []) := rfl
theorem zr_109_13 : z_co 109 13 = (.invokevirtual 191, 3, 141, 0, [886, 888, 31]) := rfl
theorem zr_109_16 : z_co 109 16 = (.goto 4, 3, 0, 0, []) := rfl
theorem zr_109_19 : z_co 109 19 = (.iconst (-1), 1, 0, 0, []) := rfl
theorem zr_109_20 : z_co 109 20 = (.ireturn, 1, 0, 0, []) := rfl
theorem zr_110_0 : z_co 110 0 = (.iload_n 2, 1, 0, 0, []) := rfl
theorem zr_110_1 : z_co 110 1 = (.iconst 0, 1, 0, 0, []) := rfl
theorem zr_110_2 : z_co 110 2 = (.iconst 2, 1, 0, 0, []) := rfl
theorem zr_110_3 : z_co 110 3 = (.invokestatic 121, 3, 133, 0, [496, 497]) := rfl
theorem zr_110_6 : z_co 110 6 = (.ifCond .eq 13, 3, 0, 0, []) := rfl
theorem zr_110_9 : z_co 110 9 = (.aload_n 0, 1, 0, 0, []) := rfl
theorem zr_110_10 : z_co 110 10 = (.iconst 2, 1, 0, 0, []) := rfl
theorem zr_110_11 : z_co 110 11 = (.iload_n 1, 1, 0, 0, []) := rfl
theorem zr_110_12 : z_co 110 12 = (.iload_n 2, 1, 0, 0, []) := rfl
theorem zr_110_13 : z_co 110 13 = (.invokevirtual 191, 3, 141, 0, [886, 888, 31]) := rfl
theorem zr_110_16 : z_co 110 16 = (.goto 4, 3, 0, 0, []) := rfl
theorem zr_110_19 : z_co 110 19 = (.iconst (-1), 1, 0, 0, []) := rfl
theorem zr_110_20 : z_co 110 20 = (.ireturn, 1, 0, 0, []) := rfl
theorem zr_111_0 : z_co 111 0 = (.aload_n 0, 1, 0, 0, []) := rfl
theorem zr_111_1 : z_co 111 1 = (.getfield 12, 3, 11, 0, [440]) := rfl
theorem zr_111_4 : z_co 111 4 = (.iload_n 1, 1, 0, 0, []) := rfl
theorem zr_111_5 : z_co 111 5 = (.invokevirtual 135, 3, 76, 0, [556, 557, 558]) := rfl
theorem zr_111_8 : z_co 111 8 = (.ifCond .eq 14, 3, 0, 0, []) := rfl
theorem zr_111_11 : z_co 111 11 = (.aload_n 0, 1, 0, 0, []) := rfl
theorem zr_111_12 : z_co 111 12 = (.getfield 12, 3, 11, 0, [440]) := rfl
theorem zr_111_15 : z_co 111 15 = (.iload_n 2, 1, 0, 0, []) := rfl
theorem zr_111_16 : z_co 111 16 = (.invokevirtual 106, 3, 75, 0, [523, 524, 525]) := rfl
theorem zr_111_19 : z_co 111 19 = (.ifCond .ne 10, 3, 0, 0, []) := rfl
theorem zr_111_22 : z_co 111 22 = (.aload_n 0, 1, 0, 0, []) := rfl
theorem zr_111_23 : z_co 111 23 = (.bipush (-2), 2, 0, 0, []) := rfl
theorem zr_111_25 : z_co 111 25 = (.invokevirtual 95, 3, 130, 0, [503, 505, 0]) := rfl
theorem zr_111_28 : z_co 111 28 = (.ireturn, 1, 0, 0, []) := rfl
theorem zr_111_29 : z_co 111 29 = (.aload_n 0, 1, 0, 0, []) := rfl
theorem zr_111_30 : z_co 111 30 = (.aload_n 0, 1, 0, 0, []) := rfl
theorem zr_111_31 : z_co 111 31 = (.getfield 12, 3, 11, 0, [440]) := rfl
theorem zr_111_34 : z_co 111 34 = (.iload_n 1, 1, 0, 0, []) := rfl
theorem zr_111_35 : z_co 111 35 = (.iload_n 2, 1, 0, 0, []) := rfl
theorem zr_111_36 : z_co 111 36 = (.invokevirtual 194, 3, 80, 0, [936, 937, 938]) := rfl
theorem zr_111_39 : z_co 111 39 = (.invokevirtual 103, 3, 132, 0, [511, 513, 1]) := rfl
theorem zr_111_42 : z_co 111 42 = (.ireturn, 1, 0, 0, []) := rfl
theorem zr_112_0 : z_co 112 0 = (.iload_n 1, 1, 0, 0, []) := rfl
theorem zr_112_1 : z_co 112 1 = (.iconst 0, 1, 0, 0, []) := rfl
theorem zr_112_2 : z_co 112 2 = (.aload_n 0, 1, 0, 0, []) := rfl
theorem zr_112_3 : z_co 112 3 = (.getfield 12, 3, 11, 0, [440]) := rfl
theorem zr_112_6 : z_co 112 6 = (.getfield 197, 3, 10, 11, [179]) := rfl
theorem zr_112_9 : z_co 112 9 = (.iconst 1, 1, 0, 0, []) := rfl
theorem zr_112_10 : z_co 112 10 = (.isub, 1, 0, 0, []) := rfl
theorem zr_112_11 : z_co 112 11 = (.invokestatic 121, 3, 133, 0, [496, 497]) := rfl
theorem zr_112_14 : z_co 112 14 = (.ifCond .ne 10, 3, 0, 0, []) := rfl
theorem zr_112_17 : z_co 112 17 = (.aload_n 0, 1, 0, 0, []) := rfl
theorem zr_112_18 : z_co 112 18 = (.bipush (-2), 2, 0, 0, []) := rfl
theorem zr_112_20 : z_co 112 20 = (.invokevirtual 95, 3, 130, 0, [503, 505, 0]) := rfl
theorem zr_112_23 : z_co 112 23 = (.ireturn, 1, 0, 0, []) := rfl
theorem zr_112_24 : z_co 112 24 = (.aload_n 0, 1, 0, 0, []) := rfl
theorem zr_112_25 : z_co 112 25 = (.getfield 12, 3, 11, 0, [440]) := rfl
theorem zr_112_28 : z_co 112 28 = (.iload_n 1, 1, 0, 0, []) := rfl
theorem zr_112_29 : z_co 112 29 = (.invokevirtual 200, 3, 82, 0, [944, 945, 946]) := rfl
theorem zr_112_32 : z_co 112 32 = (.aload_n 0, 1, 0, 0, []) := rfl
theorem zr_112_33 : z_co 112 33 = (.aload_n 0, 1, 0, 0, []) := rfl
theorem zr_112_34 : z_co 112 34 = (.getfield 12, 3, 11, 0, [440]) := rfl
theorem zr_112_37 : z_co 112 37 = (.getfield 197, 3, 10, 11, [179]) := rfl
theorem zr_112_40 : z_co 112 40 = (.invokevirtual 118, 3, 131, 0, [515, 517, 2]) := rfl
theorem zr_112_43 : z_co 112 43 = (.ireturn, 1, 0, 0, []) := rfl
theorem zr_113_0 : z_co 113 0 = (.iload_n 1, 1, 0, 0, []) := rfl
theorem zr_113_1 : z_co 113 1 = (.iconst 0, 1, 0, 0, []) := rfl
theorem zr_113_2 : z_co 113 2 = (.iconst 2, 1, 0, 0, []) := rfl
theorem zr_113_3 : z_co 113 3 = (.invokestatic 121, 3, 133, 0, [496, 497]) := rfl
theorem zr_113_6 : z_co 113 6 = (.ifCond .ne 5, 3, 0, 0, []) := rfl
theorem zr_113_9 : z_co 113 9 = (.iconst (-1), 1, 0, 0, []) := rfl
theorem zr_113_10 : z_co 113 10 = (.ireturn, 1, 0, 0, []) := rfl
theorem zr_113_11 : z_co 113 11 = (.aload_n 0, 1, 0, 0, []) := rfl
theorem zr_113_12 : z_co 113 12 = (.invokevirtual 203, 3, 140, 0, [953, 955, 33]) := rfl
theorem zr_113_15 : z_co 113 15 = (.istore_n 2, 1, 0, 0, []) := rfl
theorem zr_113_16 : z_co 113 16 = (.iload_n 1, 1, 0, 0, []) := rfl
theorem zr_113_17 : z_co 113 17 = (.ifCond .ne 5, 3, 0, 0, []) := rfl
theorem zr_113_20 : z_co 113 20 = (.iload_n 2, 1, 0, 0, []) := rfl
theorem zr_113_21 : z_co 113 21 = (.ireturn, 1, 0, 0, []) := rfl
theorem zr_113_22 : z_co 113 22 = (.iload_n 1, 1, 0, 0, []) := rfl
theorem zr_113_23 : z_co 113 23 = (.iconst 1, 1, 0, 0, []) := rfl
theorem zr_113_24 : z_co 113 24 = (.if_icmp .ne 13, 3, 0, 0, []) := rfl
theorem zr_113_27 : z_co 113 27 = (.aload_n 0, 1, 0, 0, []) := rfl
theorem zr_113_28 : z_co 113 28 = (.getfield 48, 3, 11, 6, [446]) := rfl
theorem zr_113_31 : z_co 113 31 = (.invokevirtual 207, 3, 62, 0, [974, 975, 976]) := rfl
theorem zr_113_34 : z_co 113 34 = (.goto 10, 3, 0, 0, []) := rfl
theorem zr_113_37 : z_co 113 37 = (.aload_n 0, 1, 0, 0, []) := rfl
theorem zr_113_38 : z_co 113 38 = (.getfield 48, 3, 11, 6, [446]) := rfl
theorem zr_113_41 : z_co 113 41 = (.invokevirtual 210, 3, 64, 0, [978, 895, 896]) := rfl
theorem zr_113_44 : z_co 113 44 = (.ireturn, 1, 0, 0, []) := rfl
theorem zr_114_0 : z_co 114 0 = (.aload_n 0, 1, 0, 0, []) := rfl
theorem zr_114_1 : z_co 114 1 = (.getfield 12, 3, 11, 0, [440]) := rfl
theorem zr_114_4 : z_co 114 4 = (.iload_n 1, 1, 0, 0, []) := rfl
theorem zr_114_5 : z_co 114 5 = (.invokevirtual 135, 3, 76, 0, [556, 557, 558]) := rfl
theorem zr_114_8 : z_co 114 8 = (.ifCond .ne 5, 3, 0, 0, []) := rfl
theorem zr_114_11 : z_co 114 11 = (.iconst (-1), 1, 0, 0, []) := rfl
theorem zr_114_12 : z_co 114 12 = (.ireturn, 1, 0, 0, []) := rfl
theorem zr_114_13 : z_co 114 13 = (.aload_n 0, 1, 0, 0, []) := rfl
theorem zr_114_14 : z_co 114 14 = (.invokevirtual 203, 3, 140, 0, [953, 955, 33]) := rfl
theorem zr_114_17 : z_co 114 17 = (.pop, 1, 0, 0, []) := rfl
theorem zr_114_18 : z_co 114 18 = (.aload_n 0, 1, 0, 0, []) := rfl
theorem zr_114_19 : z_co 114 19 = (.getfield 48, 3, 11, 6, [446]) := rfl
theorem zr_114_22 : z_co 114 22 = (.getfield 213, 3, 7, 5, [310]) := rfl
theorem zr_114_25 : z_co 114 25 = (.iload_n 1, 1, 0, 0, []) := rfl
theorem zr_114_26 : z_co 114 26 = (.iaload, 1, 0, 0, []) := rfl
theorem zr_114_27 : z_co 114 27 = (.istore_n 2, 1, 0, 0, []) := rfl
theorem zr_114_28 : z_co 114 28 = (.iload_n 2, 1, 0, 0, []) := rfl
theorem zr_114_29 : z_co 114 29 = (.ifCond .ne 8, 3, 0, 0, []) := rfl
theorem zr_114_32 : z_co 114 32 = (.bipush 100, 2, 0, 0, []) := rfl
theorem zr_114_34 : z_co 114 34 = (.goto 6, 3, 0, 0, []) := rfl
theorem zr_114_37 : z_co 114 37 = (.iload_n 2, 1, 0, 0, []) := rfl
theorem zr_114_38 : z_co 114 38 = (.iconst 1, 1, 0, 0, []) := rfl
theorem zr_114_39 : z_co 114 39 = (.isub, 1, 0, 0, []) := rfl
theorem zr_114_40 : z_co 114 40 = (.ireturn, 1, 0, 0, []) := rfl
theorem zr_115_0 : z_co 115 0 = (.aload_n 0, 1, 0, 0, []) := rfl
theorem zr_115_1 : z_co 115 1 = (.getfield 62, 3, 11, 8, [448]) := rfl
theorem zr_115_4 : z_co 115 4 = (.getfield 216, 3, 6, 0, [391]) := rfl
theorem zr_115_7 : z_co 115 7 = (.getfield 220, 3, 8, 1, [375]) := rfl
theorem zr_115_10 : z_co 115 10 = (.ifCond .ne 22, 3, 0, 0, []) := rfl
theorem zr_115_13 : z_co 115 13 = (.aload_n 0, 1, 0, 0, []) := rfl
theorem zr_115_14 : z_co 115 14 = (.invokevirtual 226, 3, 139, 0, [957, 959, 34]) := rfl
theorem zr_115_17 : z_co 115 17 = (.aload_n 0, 1, 0, 0, []) := rfl
theorem zr_115_18 : z_co 115 18 = (.getfield 62, 3, 11, 8, [448]) := rfl
theorem zr_115_21 : z_co 115 21 = (.aload_n 0, 1, 0, 0, []) := rfl
theorem zr_115_22 : z_co 115 22 = (.getfield 12, 3, 11, 0, [440]) := rfl
theorem zr_115_25 : z_co 115 25 = (.aload_n 0, 1, 0, 0, []) := rfl
theorem zr_115_26 : z_co 115 26 = (.getfield 48, 3, 11, 6, [446]) := rfl
theorem zr_115_29 : z_co 115 29 = (.invokevirtual 229, 3, 45, 0, [987, 988, 989]) := rfl
theorem zr_115_32 : z_co 115 32 = (.aload_n 0, 1, 0, 0, []) := rfl
theorem zr_115_33 : z_co 115 33 = (.getfield 62, 3, 11, 8, [448]) := rfl
theorem zr_115_36 : z_co 115 36 = (.getfield 216, 3, 6, 0, [391]) := rfl
theorem zr_115_39 : z_co 115 39 = (.iload_n 1, 1, 0, 0, []) := rfl
theorem zr_115_40 : z_co 115 40 = (.aload_n 0, 1, 0, 0, []) := rfl
theorem zr_115_41 : z_co 115 41 = (.getfield 12, 3, 11, 0, [440]) := rfl
theorem zr_115_44 : z_co 115 44 = (.getfield 197, 3, 10, 11, [179]) := rfl
theorem zr_115_47 : z_co 115 47 = (.invokevirtual 233, 3, 69, 0, [1012, 1013, 1014]) := rfl
theorem zr_115_50 : z_co 115 50 = (.ireturn, 1, 0, 0, []) := rfl
theorem zr_116_0 : z_co 116 0 = (.aload_n 0, 1, 0, 0, []) := rfl
theorem zr_116_1 : z_co 116 1 = (.getfield 12, 3, 11, 0, [440]) := rfl
theorem zr_116_4 : z_co 116 4 = (.getfield 236, 3, 10, 7, [166]) := rfl
theorem zr_116_7 : z_co 116 7 = (.bipush 6, 2, 0, 0, []) := rfl
theorem zr_116_9 : z_co 116 9 = (.if_icmp .le 5, 3, 0, 0, []) := rfl
theorem zr_116_12 : z_co 116 12 = (.iconst (-1), 1, 0, 0, []) := rfl
theorem zr_116_13 : z_co 116 13 = (.ireturn, 1, 0, 0, []) := rfl
theorem zr_116_14 : z_co 116 14 = (.aload_n 0, 1, 0, 0, []) := rfl
theorem zr_116_15 : z_co 116 15 = (.getfield 69, 3, 11, 9, [449]) := rfl
theorem zr_116_18 : z_co 116 18 = (.aload_n 0, 1, 0, 0, []) := rfl
theorem zr_116_19 : z_co 116 19 = (.getfield 12, 3, 11, 0, [440]) := rfl
theorem zr_116_22 : z_co 116 22 = (.aload_n 0, 1, 0, 0, []) := rfl
theorem zr_116_23 : z_co 116 23 = (.getfield 48, 3, 11, 6, [446]) := rfl
theorem zr_116_26 : z_co 116 26 = (.aload_n 0, 1, 0, 0, []) := rfl
theorem zr_116_27 : z_co 116 27 = (.getfield 41, 3, 11, 5, [445]) := rfl
theorem zr_116_30 : z_co 116 30 = (.invokevirtual 239, 3, 2, 0, [1020, 1021, 1022]) := rfl
theorem zr_116_33 : z_co 116 33 = (.aload_n 0, 1, 0, 0, []) := rfl
theorem zr_116_34 : z_co 116 34 = (.getfield 69, 3, 11, 9, [449]) := rfl
theorem zr_116_37 : z_co 116 37 = (.getfield 242, 3, 0, 0, [408]) := rfl
theorem zr_116_40 : z_co 116 40 = (.iload_n 1, 1, 0, 0, []) := rfl
theorem zr_116_41 : z_co 116 41 = (.aload_n 0, 1, 0, 0, []) := rfl
theorem zr_116_42 : z_co 116 42 = (.getfield 12, 3, 11, 0, [440]) := rfl
theorem zr_116_45 : z_co 116 45 = (.getfield 236, 3, 10, 7, [166]) := rfl
theorem zr_116_48 : z_co 116 48 = (.invokevirtual 233, 3, 69, 0, [1012, 1013, 1014]) := rfl
theorem zr_116_51 : z_co 116 51 = (.ireturn, 1, 0, 0, []) := rfl
theorem zr_117_0 : z_co 117 0 = (.aload_n 0, 1, 0, 0, []) := rfl
theorem zr_117_1 : z_co 117 1 = (.getfield 12, 3, 11, 0, [440]) := rfl
theorem zr_117_4 : z_co 117 4 = (.getfield 236, 3, 10, 7, [166]) := rfl
theorem zr_117_7 : z_co 117 7 = (.bipush 6, 2, 0, 0, []) := rfl
theorem zr_117_9 : z_co 117 9 = (.if_icmp .le 10, 3, 0, 0, []) := rfl
theorem zr_117_12 : z_co 117 12 = (.aload_n 0, 1, 0, 0, []) := rfl
theorem zr_117_13 : z_co 117 13 = (.bipush (-3), 2, 0, 0, []) := rfl
theorem zr_117_15 : z_co 117 15 = (.invokevirtual 95, 3, 130, 0, [503, 505, 0]) := rfl
theorem zr_117_18 : z_co 117 18 = (.ireturn, 1, 0, 0, []) := rfl
theorem zr_117_19 : z_co 117 19 = (.aload_n 0, 1, 0, 0, []) := rfl
theorem zr_117_20 : z_co 117 20 = (.getfield 69, 3, 11, 9, [449]) := rfl
theorem zr_117_23 : z_co 117 23 = (.aload_n 0, 1, 0, 0, []) := rfl
theorem zr_117_24 : z_co 117 24 = (.getfield 12, 3, 11, 0, [440]) := rfl
theorem zr_117_27 : z_co 117 27 = (.aload_n 0, 1, 0, 0, []) := rfl
theorem zr_117_28 : z_co 117 28 = (.getfield 48, 3, 11, 6, [446]) := rfl
theorem zr_117_31 : z_co 117 31 = (.aload_n 0, 1, 0, 0, []) := rfl
theorem zr_117_32 : z_co 117 32 = (.getfield 41, 3, 11, 5, [445]) := rfl
theorem zr_117_35 : z_co 117 35 = (.invokevirtual 239, 3, 2, 0, [1020, 1021, 1022]) := rfl
theorem zr_117_38 : z_co 117 38 = (.iconst 0, 1, 0, 0, []) := rfl
theorem zr_117_39 : z_co 117 39 = (.istore_n 1, 1, 0, 0, []) := rfl
theorem zr_117_40 : z_co 117 40 = (.iconst 0, 1, 0, 0, []) := rfl
theorem zr_117_41 : z_co 117 41 = (.istore_n 2, 1, 0, 0, []) := rfl
theorem zr_117_42 : z_co 117 42 = (.iload_n 2, 1, 0, 0, []) := rfl
theorem zr_117_43 : z_co 117 43 = (.aload_n 0, 1, 0, 0, []) := rfl
theorem zr_117_44 : z_co 117 44 = (.getfield 12, 3, 11, 0, [440]) := rfl
theorem zr_117_47 : z_co 117 47 = (.getfield 236, 3, 10, 7, [166]) := rfl
theorem zr_117_50 : z_co 117 50 = (.if_icmp .ge 28, 3, 0, 0, []) := rfl
theorem zr_117_53 : z_co 117 53 = (.aload_n 0, 1, 0, 0, []) := rfl
theorem zr_117_54 : z_co 117 54 = (.getfield 69, 3, 11, 9, [449]) := rfl
theorem zr_117_57 : z_co 117 57 = (.getfield 242, 3, 0, 0, [408]) := rfl
theorem zr_117_60 : z_co 117 60 = (.getfield 243, 3, 8, 0, [372]) := rfl
theorem zr_117_63 : z_co 117 63 = (.iload_n 2, 1, 0, 0, []) := rfl
theorem zr_117_64 : z_co 117 64 = (.iaload, 1, 0, 0, []) := rfl
theorem zr_117_65 : z_co 117 65 = (.iload_n 2, 1, 0, 0, []) := rfl
theorem zr_117_66 : z_co 117 66 = (.if_icmp .eq 6, 3, 0, 0, []) := rfl
theorem zr_117_69 : z_co 117 69 = (.iinc 1 1, 3, 0, 0, []) := rfl
theorem zr_117_72 : z_co 117 72 = (.iinc 2 1, 3, 0, 0, []) := rfl
theorem zr_117_75 : z_co 117 75 = (.goto (-33), 3, 0, 0, []) := rfl
theorem zr_117_78 : z_co 117 78 = (.aload_n 0, 1, 0, 0, []) := rfl
theorem zr_117_79 : z_co 117 79 = (.getfield 12, 3, 11, 0, [440]) := rfl
theorem zr_117_82 : z_co 117 82 = (.aload_n 0, 1, 0, 0, []) := rfl
theorem zr_117_83 : z_co 117 83 = (.getfield 69, 3, 11, 9, [449]) := rfl
theorem zr_117_86 : z_co 117 86 = (.getfield 242, 3, 0, 0, [408]) := rfl
theorem zr_117_89 : z_co 117 89 = (.getfield 243, 3, 8, 0, [372]) := rfl
theorem zr_117_92 : z_co 117 92 = (.invokevirtual 246, 3, 87, 0, [1056, 1057, 1058]) := rfl
theorem zr_117_95 : z_co 117 95 = (.aload_n 0, 1, 0, 0, []) := rfl
theorem zr_117_96 : z_co 117 96 = (.iload_n 1, 1, 0, 0, []) := rfl
theorem zr_117_97 : z_co 117 97 = (.invokevirtual 118, 3, 131, 0, [515, 517, 2]) := rfl
theorem zr_117_100 : z_co 117 100 = (.ireturn, 1, 0, 0, []) := rfl
theorem zr_118_0 : z_co 118 0 = (.aload_n 0, 1, 0, 0, []) := rfl
theorem zr_118_1 : z_co 118 1 = (.getfield 12, 3, 11, 0, [440]) := rfl
theorem zr_118_4 : z_co 118 4 = (.iload_n 1, 1, 0, 0, []) := rfl
theorem zr_118_5 : z_co 118 5 = (.invokevirtual 106, 3, 75, 0, [523, 524, 525]) := rfl
theorem zr_118_8 : z_co 118 8 = (.ifCond .eq 14, 3, 0, 0, []) := rfl
theorem zr_118_11 : z_co 118 11 = (.aload_n 0, 1, 0, 0, []) := rfl
theorem zr_118_12 : z_co 118 12 = (.getfield 12, 3, 11, 0, [440]) := rfl
theorem zr_118_15 : z_co 118 15 = (.iload_n 2, 1, 0, 0, []) := rfl
theorem zr_118_16 : z_co 118 16 = (.invokevirtual 106, 3, 75, 0, [523, 524, 525]) := rfl
theorem zr_118_19 : z_co 118 19 = (.ifCond .ne 10, 3, 0, 0, []) := rfl
theorem zr_118_22 : z_co 118 22 = (.aload_n 0, 1, 0, 0, []) := rfl
theorem zr_118_23 : z_co 118 23 = (.bipush (-2), 2, 0, 0, []) := rfl
theorem zr_118_25 : z_co 118 25 = (.invokevirtual 95, 3, 130, 0, [503, 505, 0]) := rfl
theorem zr_118_28 : z_co 118 28 = (.ireturn, 1, 0, 0, []) := rfl
theorem zr_118_29 : z_co 118 29 = (.iload_n 1, 1, 0, 0, []) := rfl
theorem zr_118_30 : z_co 118 30 = (.iload_n 2, 1, 0, 0, []) := rfl
theorem zr_118_31 : z_co 118 31 = (.if_icmp .ne 10, 3, 0, 0, []) := rfl
theorem zr_118_34 : z_co 118 34 = (.aload_n 0, 1, 0, 0, []) := rfl
theorem zr_118_35 : z_co 118 35 = (.bipush (-3), 2, 0, 0, []) := rfl
theorem zr_118_37 : z_co 118 37 = (.invokevirtual 95, 3, 130, 0, [503, 505, 0]) := rfl
theorem zr_118_40 : z_co 118 40 = (.ireturn, 1, 0, 0, []) := rfl
theorem zr_118_41 : z_co 118 41 = (.getstatic 250, 3, 6, 0, [834]) := rfl
theorem zr_118_44 : z_co 118 44 = (.iconst 0, 1, 0, 0, []) := rfl
theorem zr_118_45 : z_co 118 45 = (.aload_n 0, 1, 0, 0, []) := rfl
theorem zr_118_46 : z_co 118 46 = (.getfield 80, 3, 11, 11, [451]) := rfl
theorem zr_118_49 : z_co 118 49 = (.iconst 0, 1, 0, 0, []) := rfl
theorem zr_118_50 : z_co 118 50 = (.bipush 12, 2, 0, 0, []) := rfl
theorem zr_118_52 : z_co 118 52 = (.invokestatic 253, 3, 1001, 0, [1070, 754, 753, 123]) := rfl
theorem zr_118_55 : z_co 118 55 = (.aload_n 0, 1, 0, 0, []) := rfl
theorem zr_118_56 : z_co 118 56 = (.getfield 80, 3, 11, 11, [451]) := rfl
theorem zr_118_59 : z_co 118 59 = (.iload_n 1, 1, 0, 0, []) := rfl
theorem zr_118_60 : z_co 118 60 = (.iload_n 2, 1, 0, 0, []) := rfl
theorem zr_118_61 : z_co 118 61 = (.iastore, 1, 0, 0, []) := rfl
theorem zr_118_62 : z_co 118 62 = (.aload_n 0, 1, 0, 0, []) := rfl
theorem zr_118_63 : z_co 118 63 = (.getfield 80, 3, 11, 11, [451]) := rfl
theorem zr_118_66 : z_co 118 66 = (.iload_n 2, 1, 0, 0, []) := rfl
theorem zr_118_67 : z_co 118 67 = (.iload_n 1, 1, 0, 0, []) := rfl
theorem zr_118_68 : z_co 118 68 = (.iastore, 1, 0, 0, []) := rfl
theorem zr_118_69 : z_co 118 69 = (.aload_n 0, 1, 0, 0, []) := rfl
theorem zr_118_70 : z_co 118 70 = (.getfield 12, 3, 11, 0, [440]) := rfl
theorem zr_118_73 : z_co 118 73 = (.aload_n 0, 1, 0, 0, []) := rfl
theorem zr_118_74 : z_co 118 74 = (.getfield 80, 3, 11, 11, [451]) := rfl
theorem zr_118_77 : z_co 118 77 = (.invokevirtual 246, 3, 87, 0, [1056, 1057, 1058]) := rfl
theorem zr_118_80 : z_co 118 80 = (.aload_n 0, 1, 0, 0, []) := rfl
theorem zr_118_81 : z_co 118 81 = (.iconst 0, 1, 0, 0, []) := rfl
theorem zr_118_82 : z_co 118 82 = (.invokevirtual 118, 3, 131, 0, [515, 517, 2]) := rfl
theorem zr_118_85 : z_co 118 85 = (.ireturn, 1, 0, 0, []) := rfl
theorem zr_119_0 : z_co 119 0 = (.iload_n 1, 1, 0, 0, []) := rfl
theorem zr_119_1 : z_co 119 1 = (.iconst 0, 1, 0, 0, []) := rfl
theorem zr_119_2 : z_co 119 2 = (.iconst 1, 1, 0, 0, []) := rfl
theorem zr_119_3 : z_co 119 3 = (.aload_n 0, 1, 0, 0, []) := rfl
theorem zr_119_4 : z_co 119 4 = (.getfield 12, 3, 11, 0, [440]) := rfl
theorem zr_119_7 : z_co 119 7 = (.getfield 236, 3, 10, 7, [166]) := rfl
theorem zr_119_10 : z_co 119 10 = (.ishl, 1, 0, 0, []) := rfl
theorem zr_119_11 : z_co 119 11 = (.iconst 1, 1, 0, 0, []) := rfl
theorem zr_119_12 : z_co 119 12 = (.isub, 1, 0, 0, []) := rfl
theorem zr_119_13 : z_co 119 13 = (.invokestatic 121, 3, 133, 0, [496, 497]) := rfl
theorem zr_119_16 : z_co 119 16 = (.ifCond .eq 12, 3, 0, 0, []) := rfl
theorem zr_119_19 : z_co 119 19 = (.iload_n 2, 1, 0, 0, []) := rfl
theorem zr_119_20 : z_co 119 20 = (.iconst 0, 1, 0, 0, []) := rfl
theorem zr_119_21 : z_co 119 21 = (.iconst 2, 1, 0, 0, []) := rfl
theorem zr_119_22 : z_co 119 22 = (.invokestatic 121, 3, 133, 0, [496, 497]) := rfl
theorem zr_119_25 : z_co 119 25 = (.ifCond .ne 5, 3, 0, 0, []) := rfl
theorem zr_119_28 : z_co 119 28 = (.iconst (-1), 1, 0, 0, []) := rfl
theorem zr_119_29 : z_co 119 29 = (.ireturn, 1, 0, 0, []) := rfl
theorem zr_119_30 : z_co 119 30 = (.aload_n 0, 1, 0, 0, []) := rfl
theorem zr_119_31 : z_co 119 31 = (.invokevirtual 226, 3, 139, 0, [957, 959, 34]) := rfl
theorem zr_119_34 : z_co 119 34 = (.iconst 0, 1, 0, 0, []) := rfl
theorem zr_119_35 : z_co 119 35 = (.istore_n 3, 1, 0, 0, []) := rfl
theorem zr_119_36 : z_co 119 36 = (.iconst (-1), 1, 0, 0, []) := rfl
theorem zr_119_37 : z_co 119 37 = (.istore 4, 2, 0, 0, []) := rfl
theorem zr_119_39 : z_co 119 39 = (.iconst 1, 1, 0, 0, []) := rfl
theorem zr_119_40 : z_co 119 40 = (.aload_n 0, 1, 0, 0, []) := rfl
theorem zr_119_41 : z_co 119 41 = (.getfield 12, 3, 11, 0, [440]) := rfl
theorem zr_119_44 : z_co 119 44 = (.getfield 259, 3, 10, 8, [171]) := rfl
theorem zr_119_47 : z_co 119 47 = (.ishl, 1, 0, 0, []) := rfl
theorem zr_119_48 : z_co 119 48 = (.iconst 1, 1, 0, 0, []) := rfl
theorem zr_119_49 : z_co 119 49 = (.isub, 1, 0, 0, []) := rfl
theorem zr_119_50 : z_co 119 50 = (.istore 5, 2, 0, 0, []) := rfl
theorem zr_119_52 : z_co 119 52 = (.iconst 0, 1, 0, 0, []) := rfl
theorem zr_119_53 : z_co 119 53 = (.istore 6, 2, 0, 0, []) := rfl
theorem zr_119_55 : z_co 119 55 = (.iload 6, 2, 0, 0, []) := rfl
theorem zr_119_57 : z_co 119 57 = (.iconst 1, 1, 0, 0, []) := rfl
theorem zr_119_58 : z_co 119 58 = (.aload_n 0, 1, 0, 0, []) := rfl
theorem zr_119_59 : z_co 119 59 = (.getfield 12, 3, 11, 0, [440]) := rfl
theorem zr_119_62 : z_co 119 62 = (.getfield 259, 3, 10, 8, [171]) := rfl
theorem zr_119_65 : z_co 119 65 = (.ishl, 1, 0, 0, []) := rfl
theorem zr_119_66 : z_co 119 66 = (.if_icmp .ge 52, 3, 0, 0, []) := rfl
theorem zr_119_69 : z_co 119 69 = (.aload_n 0, 1, 0, 0, []) := rfl
theorem zr_119_70 : z_co 119 70 = (.iload 6, 2, 0, 0, []) := rfl
theorem zr_119_72 : z_co 119 72 = (.invokevirtual 262, 3, 142, 0, [1075, 1077, 42]) := rfl
theorem zr_119_75 : z_co 119 75 = (.iload_n 1, 1, 0, 0, []) := rfl
theorem zr_119_76 : z_co 119 76 = (.if_icmp .ne 36, 3, 0, 0, []) := rfl
theorem zr_119_79 : z_co 119 79 = (.iinc 3 1, 3, 0, 0, []) := rfl
theorem zr_119_82 : z_co 119 82 = (.iload 5, 2, 0, 0, []) := rfl
theorem zr_119_84 : z_co 119 84 = (.iload 6, 2, 0, 0, []) := rfl
theorem zr_119_86 : z_co 119 86 = (.iand, 1, 0, 0, []) := rfl
theorem zr_119_87 : z_co 119 87 = (.istore 5, 2, 0, 0, []) := rfl
theorem zr_119_89 : z_co 119 89 = (.iload 4, 2, 0, 0, []) := rfl
theorem zr_119_91 : z_co 119 91 = (.iconst (-1), 1, 0, 0, []) := rfl
theorem zr_119_92 : z_co 119 92 = (.if_icmp .eq 16, 3, 0, 0, []) := rfl
theorem zr_119_95 : z_co 119 95 = (.iload 6, 2, 0, 0, []) := rfl
theorem zr_119_97 : z_co 119 97 = (.invokestatic 265, 3, 256, 0, [1084, 915]) := rfl
theorem zr_119_100 : z_co 119 100 = (.iload 4, 2, 0, 0, []) := rfl
theorem zr_119_102 : z_co 119 102 = (.invokestatic 265, 3, 256, 0, [1084, 915]) := rfl
theorem zr_119_105 : z_co 119 105 = (.if_icmp .ge 7, 3, 0, 0, []) := rfl
theorem zr_119_108 : z_co 119 108 = (.iload 6, 2, 0, 0, []) := rfl
theorem zr_119_110 : z_co 119 110 = (.istore 4, 2, 0, 0, []) := rfl
theorem zr_119_112 : z_co 119 112 = (.iinc 6 1, 3, 0, 0, []) := rfl
theorem zr_119_115 : z_co 119 115 = (.goto (-60), 3, 0, 0, []) := rfl
theorem zr_119_118 : z_co 119 118 = (.iload_n 2, 1, 0, 0, []) := rfl
theorem zr_119_119 : z_co 119 119 = (.ifCond .ne 5, 3, 0, 0, []) := rfl
theorem zr_119_122 : z_co 119 122 = (.iload_n 3, 1, 0, 0, []) := rfl
theorem zr_119_123 : z_co 119 123 = (.ireturn, 1, 0, 0, []) := rfl
theorem zr_119_124 : z_co 119 124 = (.iload_n 3, 1, 0, 0, []) := rfl
theorem zr_119_125 : z_co 119 125 = (.ifCond .ne 5, 3, 0, 0, []) := rfl
theorem zr_119_128 : z_co 119 128 = (.iconst (-1), 1, 0, 0, []) := rfl
theorem zr_119_129 : z_co 119 129 = (.ireturn, 1, 0, 0, []) := rfl
theorem zr_119_130 : z_co 119 130 = (.iload_n 2, 1, 0, 0, []) := rfl
theorem zr_119_131 : z_co 119 131 = (.iconst 1, 1, 0, 0, []) := rfl
theorem zr_119_132 : z_co 119 132 = (.if_icmp .ne 8, 3, 0, 0, []) := rfl
theorem zr_119_135 : z_co 119 135 = (.iload 4, 2, 0, 0, []) := rfl
theorem zr_119_137 : z_co 119 137 = (.goto 5, 3, 0, 0, []) := rfl
theorem zr_119_140 : z_co 119 140 = (.iload 5, 2, 0, 0, []) := rfl
theorem zr_119_142 : z_co 119 142 = (.ireturn, 1, 0, 0, []) := rfl
theorem zr_120_0 : z_co 120 0 = (.aload_n 0, 1, 0, 0, []) := rfl
theorem zr_120_1 : z_co 120 1 = (.invokevirtual 270, 3, 143, 0, [1089, 1091, 43]) := rfl
theorem zr_120_4 : z_co 120 4 = (.istore_n 2, 1, 0, 0, []) := rfl
theorem zr_120_5 : z_co 120 5 = (.iload_n 1, 1, 0, 0, []) := rfl
theorem zr_120_6 : z_co 120 6 = (.iconst (-1), 1, 0, 0, []) := rfl
theorem zr_120_7 : z_co 120 7 = (.if_icmp .ne 13, 3, 0, 0, []) := rfl
theorem zr_120_10 : z_co 120 10 = (.aload_n 0, 1, 0, 0, []) := rfl
theorem zr_120_11 : z_co 120 11 = (.getfield 12, 3, 11, 0, [440]) := rfl
theorem zr_120_14 : z_co 120 14 = (.getfield 236, 3, 10, 7, [166]) := rfl
theorem zr_120_17 : z_co 120 17 = (.iload_n 2, 1, 0, 0, []) := rfl
theorem zr_120_18 : z_co 120 18 = (.isub, 1, 0, 0, []) := rfl
theorem zr_120_19 : z_co 120 19 = (.ireturn, 1, 0, 0, []) := rfl
theorem zr_120_20 : z_co 120 20 = (.iload_n 1, 1, 0, 0, []) := rfl
theorem zr_120_21 : z_co 120 21 = (.iconst 0, 1, 0, 0, []) := rfl
theorem zr_120_22 : z_co 120 22 = (.iload_n 2, 1, 0, 0, []) := rfl
theorem zr_120_23 : z_co 120 23 = (.iconst 1, 1, 0, 0, []) := rfl
theorem zr_120_24 : z_co 120 24 = (.isub, 1, 0, 0, []) := rfl
theorem zr_120_25 : z_co 120 25 = (.invokestatic 121, 3, 133, 0, [496, 497]) := rfl
theorem zr_120_28 : z_co 120 28 = (.ifCond .ne 5, 3, 0, 0, []) := rfl
theorem zr_120_31 : z_co 120 31 = (.iconst (-1), 1, 0, 0, []) := rfl
theorem zr_120_32 : z_co 120 32 = (.ireturn, 1, 0, 0, []) := rfl
theorem zr_120_33 : z_co 120 33 = (.iconst (-1), 1, 0, 0, []) := rfl
theorem zr_120_34 : z_co 120 34 = (.istore_n 3, 1, 0, 0, []) := rfl
theorem zr_120_35 : z_co 120 35 = (.iconst (-1), 1, 0, 0, []) := rfl
theorem zr_120_36 : z_co 120 36 = (.istore 4, 2, 0, 0, []) := rfl
theorem zr_120_38 : z_co 120 38 = (.iconst 0, 1, 0, 0, []) := rfl
theorem zr_120_39 : z_co 120 39 = (.istore 5, 2, 0, 0, []) := rfl
theorem zr_120_41 : z_co 120 41 = (.iload 5, 2, 0, 0, []) := rfl
theorem zr_120_43 : z_co 120 43 = (.aload_n 0, 1, 0, 0, []) := rfl
theorem zr_120_44 : z_co 120 44 = (.getfield 12, 3, 11, 0, [440]) := rfl
theorem zr_120_47 : z_co 120 47 = (.getfield 236, 3, 10, 7, [166]) := rfl
theorem zr_120_50 : z_co 120 50 = (.if_icmp .ge 56, 3, 0, 0, []) := rfl
theorem zr_120_53 : z_co 120 53 = (.iload_n 3, 1, 0, 0, []) := rfl
theorem zr_120_54 : z_co 120 54 = (.iload_n 1, 1, 0, 0, []) := rfl
theorem zr_120_55 : z_co 120 55 = (.if_icmp .ge 51, 3, 0, 0, []) := rfl
theorem zr_120_58 : z_co 120 58 = (.aload_n 0, 1, 0, 0, []) := rfl
theorem zr_120_59 : z_co 120 59 = (.getfield 80, 3, 11, 11, [451]) := rfl
theorem zr_120_62 : z_co 120 62 = (.iload 5, 2, 0, 0, []) := rfl
theorem zr_120_64 : z_co 120 64 = (.iaload, 1, 0, 0, []) := rfl
theorem zr_120_65 : z_co 120 65 = (.iload_n 2, 1, 0, 0, []) := rfl
theorem zr_120_66 : z_co 120 66 = (.iload_n 3, 1, 0, 0, []) := rfl
theorem zr_120_67 : z_co 120 67 = (.isub, 1, 0, 0, []) := rfl
theorem zr_120_68 : z_co 120 68 = (.iconst 1, 1, 0, 0, []) := rfl
theorem zr_120_69 : z_co 120 69 = (.isub, 1, 0, 0, []) := rfl
theorem zr_120_70 : z_co 120 70 = (.if_icmp .ne 30, 3, 0, 0, []) := rfl
theorem zr_120_73 : z_co 120 73 = (.iload 4, 2, 0, 0, []) := rfl
theorem zr_120_75 : z_co 120 75 = (.iconst (-1), 1, 0, 0, []) := rfl
theorem zr_120_76 : z_co 120 76 = (.if_icmp .eq 17, 3, 0, 0, []) := rfl
theorem zr_120_79 : z_co 120 79 = (.aload_n 0, 1, 0, 0, []) := rfl
theorem zr_120_80 : z_co 120 80 = (.getfield 12, 3, 11, 0, [440]) := rfl
theorem zr_120_83 : z_co 120 83 = (.iload 4, 2, 0, 0, []) := rfl
theorem zr_120_85 : z_co 120 85 = (.iload 5, 2, 0, 0, []) := rfl
theorem zr_120_87 : z_co 120 87 = (.invokevirtual 273, 3, 89, 0, [1093, 1094, 1095]) := rfl
theorem zr_120_90 : z_co 120 90 = (.ifCond .eq 10, 3, 0, 0, []) := rfl
theorem zr_120_93 : z_co 120 93 = (.iload 5, 2, 0, 0, []) := rfl
theorem zr_120_95 : z_co 120 95 = (.istore 4, 2, 0, 0, []) := rfl
theorem zr_120_97 : z_co 120 97 = (.iinc 3 1, 3, 0, 0, []) := rfl
theorem zr_120_100 : z_co 120 100 = (.iinc 5 1, 3, 0, 0, []) := rfl
theorem zr_120_103 : z_co 120 103 = (.goto (-62), 3, 0, 0, []) := rfl
theorem zr_120_106 : z_co 120 106 = (.iload 4, 2, 0, 0, []) := rfl
theorem zr_120_108 : z_co 120 108 = (.ireturn, 1, 0, 0, []) := rfl
theorem zr_121_0 : z_co 121 0 = (.iconst 0, 1, 0, 0, []) := rfl
theorem zr_121_1 : z_co 121 1 = (.iload_n 1, 1, 0, 0, []) := rfl
theorem zr_121_2 : z_co 121 2 = (.invokestatic 91, 3, 134, 0, [493, 494]) := rfl
theorem zr_121_5 : z_co 121 5 = (.ifCond .ne 9, 3, 0, 0, []) := rfl
theorem zr_121_8 : z_co 121 8 = (.aload_n 0, 1, 0, 0, []) := rfl
theorem zr_121_9 : z_co 121 9 = (.iconst (-1), 1, 0, 0, []) := rfl
theorem zr_121_10 : z_co 121 10 = (.invokevirtual 95, 3, 130, 0, [503, 505, 0]) := rfl
theorem zr_121_13 : z_co 121 13 = (.ireturn, 1, 0, 0, []) := rfl
theorem zr_121_14 : z_co 121 14 = (.aload_n 0, 1, 0, 0, []) := rfl
theorem zr_121_15 : z_co 121 15 = (.aload_n 0, 1, 0, 0, []) := rfl
theorem zr_121_16 : z_co 121 16 = (.getfield 12, 3, 11, 0, [440]) := rfl
theorem zr_121_19 : z_co 121 19 = (.iload_n 1, 1, 0, 0, []) := rfl
theorem zr_121_20 : z_co 121 20 = (.invokevirtual 276, 3, 81, 0, [1102, 1103, 1104]) := rfl
theorem zr_121_23 : z_co 121 23 = (.invokevirtual 103, 3, 132, 0, [511, 513, 1]) := rfl
theorem zr_121_26 : z_co 121 26 = (.ireturn, 1, 0, 0, []) := rfl
theorem zr_122_0 : z_co 122 0 = (.aload_n 0, 1, 0, 0, []) := rfl
theorem zr_122_1 : z_co 122 1 = (.getfield 12, 3, 11, 0, [440]) := rfl
theorem zr_122_4 : z_co 122 4 = (.getfield 279, 3, 10, 12, [181]) := rfl
theorem zr_122_7 : z_co 122 7 = (.istore_n 1, 1, 0, 0, []) := rfl
theorem zr_122_8 : z_co 122 8 = (.aload_n 0, 1, 0, 0, []) := rfl
theorem zr_122_9 : z_co 122 9 = (.getfield 12, 3, 11, 0, [440]) := rfl
theorem zr_122_12 : z_co 122 12 = (.iconst 0, 1, 0, 0, []) := rfl
theorem zr_122_13 : z_co 122 13 = (.putfield 279, 3, 10, 12, [181]) := rfl
theorem zr_122_16 : z_co 122 16 = (.iload_n 1, 1, 0, 0, []) := rfl
theorem zr_122_17 : z_co 122 17 = (.ireturn, 1, 0, 0, []) := rfl
theorem zr_123_0 : z_co 123 0 = (.iload_n 1, 1, 0, 0, []) := rfl
theorem zr_123_1 : z_co 123 1 = (.iconst 0, 1, 0, 0, []) := rfl
theorem zr_123_2 : z_co 123 2 = (.bipush 8, 2, 0, 0, []) := rfl
theorem zr_123_4 : z_co 123 4 = (.invokestatic 121, 3, 133, 0, [496, 497]) := rfl
theorem zr_123_7 : z_co 123 7 = (.ifCond .eq 18, 3, 0, 0, []) := rfl
theorem zr_123_10 : z_co 123 10 = (.aload_n 0, 1, 0, 0, []) := rfl
theorem zr_123_11 : z_co 123 11 = (.getfield 12, 3, 11, 0, [440]) := rfl
theorem zr_123_14 : z_co 123 14 = (.getfield 279, 3, 10, 12, [181]) := rfl
theorem zr_123_17 : z_co 123 17 = (.ifCond .eq 8, 3, 0, 0, []) := rfl
theorem zr_123_20 : z_co 123 20 = (.iload_n 2, 1, 0, 0, []) := rfl
theorem zr_123_21 : z_co 123 21 = (.iconst (-1), 1, 0, 0, []) := rfl
theorem zr_123_22 : z_co 123 22 = (.if_icmp .ge 5, 3, 0, 0, []) := rfl
theorem zr_123_25 : z_co 123 25 = (.iconst (-1), 1, 0, 0, []) := rfl
theorem zr_123_26 : z_co 123 26 = (.ireturn, 1, 0, 0, []) := rfl
theorem zr_123_27 : z_co 123 27 = (.iconst 0, 1, 0, 0, []) := rfl
theorem zr_123_28 : z_co 123 28 = (.istore_n 3, 1, 0, 0, []) := rfl
theorem zr_123_29 : z_co 123 29 = (.iconst 0, 1, 0, 0, []) := rfl
theorem zr_123_30 : z_co 123 30 = (.istore 4, 2, 0, 0, []) := rfl
theorem zr_123_32 : z_co 123 32 = (.iload 4, 2, 0, 0, []) := rfl
theorem zr_123_34 : z_co 123 34 = (.aload_n 0, 1, 0, 0, []) := rfl
theorem zr_123_35 : z_co 123 35 = (.getfield 12, 3, 11, 0, [440]) := rfl
theorem zr_123_38 : z_co 123 38 = (.getfield 236, 3, 10, 7, [166]) := rfl
theorem zr_123_41 : z_co 123 41 = (.if_icmp .ge 33, 3, 0, 0, []) := rfl
theorem zr_123_44 : z_co 123 44 = (.aload_n 0, 1, 0, 0, []) := rfl
theorem zr_123_45 : z_co 123 45 = (.getfield 12, 3, 11, 0, [440]) := rfl
theorem zr_123_48 : z_co 123 48 = (.iload 4, 2, 0, 0, []) := rfl
theorem zr_123_50 : z_co 123 50 = (.iload_n 1, 1, 0, 0, []) := rfl
theorem zr_123_51 : z_co 123 51 = (.invokevirtual 282, 3, 90, 0, [1114, 1115, 1116]) := rfl
theorem zr_123_54 : z_co 123 54 = (.ifCond .eq 14, 3, 0, 0, []) := rfl
theorem zr_123_57 : z_co 123 57 = (.iload_n 3, 1, 0, 0, []) := rfl
theorem zr_123_58 : z_co 123 58 = (.iload_n 2, 1, 0, 0, []) := rfl
theorem zr_123_59 : z_co 123 59 = (.if_icmp .ne 6, 3, 0, 0, []) := rfl
theorem zr_123_62 : z_co 123 62 = (.iload 4, 2, 0, 0, []) := rfl
theorem zr_123_64 : z_co 123 64 = (.ireturn, 1, 0, 0, []) := rfl
theorem zr_123_65 : z_co 123 65 = (.iinc 3 1, 3, 0, 0, []) := rfl
theorem zr_123_68 : z_co 123 68 = (.iinc 4 1, 3, 0, 0, []) := rfl
theorem zr_123_71 : z_co 123 71 = (.goto (-39), 3, 0, 0, []) := rfl
theorem zr_123_74 : z_co 123 74 = (.iload_n 2, 1, 0, 0, []) := rfl
theorem zr_123_75 : z_co 123 75 = (.iconst (-1), 1, 0, 0, []) := rfl
theorem zr_123_76 : z_co 123 76 = (.if_icmp .ne 7, 3, 0, 0, []) := rfl
theorem zr_123_79 : z_co 123 79 = (.iload_n 3, 1, 0, 0, []) := rfl
theorem zr_123_80 : z_co 123 80 = (.goto 4, 3, 0, 0, []) := rfl
theorem zr_123_83 : z_co 123 83 = (.iconst (-1), 1, 0, 0, []) := rfl
theorem zr_123_84 : z_co 123 84 = (.ireturn, 1, 0, 0, []) := rfl
theorem zr_124_0 : z_co 124 0 = (.iload_n 1, 1, 0, 0, []) := rfl
theorem zr_124_1 : z_co 124 1 = (.iconst 0, 1, 0, 0, []) := rfl
theorem zr_124_2 : z_co 124 2 = (.ldc_w 285, 3, 1000000, 0, [1123]) := rfl
theorem zr_124_5 : z_co 124 5 = (.invokestatic 121, 3, 133, 0, [496, 497]) := rfl
theorem zr_124_8 : z_co 124 8 = (.ifCond .eq 13, 3, 0, 0, []) := rfl
theorem zr_124_11 : z_co 124 11 = (.iload_n 2, 1, 0, 0, []) := rfl
theorem zr_124_12 : z_co 124 12 = (.iconst 1, 1, 0, 0, []) := rfl
theorem zr_124_13 : z_co 124 13 = (.bipush 20, 2, 0, 0, []) := rfl
theorem zr_124_15 : z_co 124 15 = (.invokestatic 121, 3, 133, 0, [496, 497]) := rfl
theorem zr_124_18 : z_co 124 18 = (.ifCond .ne 9, 3, 0, 0, []) := rfl
theorem zr_124_21 : z_co 124 21 = (.aload_n 0, 1, 0, 0, []) := rfl
theorem zr_124_22 : z_co 124 22 = (.iconst (-1), 1, 0, 0, []) := rfl
theorem zr_124_23 : z_co 124 23 = (.invokevirtual 95, 3, 130, 0, [503, 505, 0]) := rfl
theorem zr_124_26 : z_co 124 26 = (.ireturn, 1, 0, 0, []) := rfl
theorem zr_124_27 : z_co 124 27 = (.aload_n 0, 1, 0, 0, []) := rfl
theorem zr_124_28 : z_co 124 28 = (.invokevirtual 226, 3, 139, 0, [957, 959, 34]) := rfl
theorem zr_124_31 : z_co 124 31 = (.aload_n 0, 1, 0, 0, []) := rfl
theorem zr_124_32 : z_co 124 32 = (.aload_n 0, 1, 0, 0, []) := rfl
theorem zr_124_33 : z_co 124 33 = (.getfield 76, 3, 11, 10, [450]) := rfl
theorem zr_124_36 : z_co 124 36 = (.aload_n 0, 1, 0, 0, []) := rfl
theorem zr_124_37 : z_co 124 37 = (.getfield 12, 3, 11, 0, [440]) := rfl
theorem zr_124_40 : z_co 124 40 = (.aload_n 0, 1, 0, 0, []) := rfl
theorem zr_124_41 : z_co 124 41 = (.getfield 48, 3, 11, 6, [446]) := rfl
theorem zr_124_44 : z_co 124 44 = (.iload_n 1, 1, 0, 0, []) := rfl
theorem zr_124_45 : z_co 124 45 = (.iload_n 2, 1, 0, 0, []) := rfl
theorem zr_124_46 : z_co 124 46 = (.invokevirtual 286, 3, 12, 0, [1124, 1125, 1126]) := rfl
theorem zr_124_49 : z_co 124 49 = (.invokevirtual 118, 3, 131, 0, [515, 517, 2]) := rfl
theorem zr_124_52 : z_co 124 52 = (.ireturn, 1, 0, 0, []) := rfl
theorem zr_125_0 : z_co 125 0 = (.iload_n 1, 1, 0, 0, []) := rfl
theorem zr_125_1 : z_co 125 1 = (.iconst 0, 1, 0, 0, []) := rfl
theorem zr_125_2 : z_co 125 2 = (.aload_n 0, 1, 0, 0, []) := rfl
theorem zr_125_3 : z_co 125 3 = (.getfield 76, 3, 11, 10, [450]) := rfl
theorem zr_125_6 : z_co 125 6 = (.getfield 290, 3, 2, 1, [431]) := rfl
theorem zr_125_9 : z_co 125 9 = (.iconst 1, 1, 0, 0, []) := rfl
theorem zr_125_10 : z_co 125 10 = (.isub, 1, 0, 0, []) := rfl
theorem zr_125_11 : z_co 125 11 = (.invokestatic 121, 3, 133, 0, [496, 497]) := rfl
theorem zr_125_14 : z_co 125 14 = (.ifCond .eq 12, 3, 0, 0, []) := rfl
theorem zr_125_17 : z_co 125 17 = (.iload_n 2, 1, 0, 0, []) := rfl
theorem zr_125_18 : z_co 125 18 = (.iconst 0, 1, 0, 0, []) := rfl
theorem zr_125_19 : z_co 125 19 = (.iconst 2, 1, 0, 0, []) := rfl
theorem zr_125_20 : z_co 125 20 = (.invokestatic 121, 3, 133, 0, [496, 497]) := rfl
theorem zr_125_23 : z_co 125 23 = (.ifCond .ne 5, 3, 0, 0, []) := rfl
theorem zr_125_26 : z_co 125 26 = (.iconst (-1), 1, 0, 0, []) := rfl
theorem zr_125_27 : z_co 125 27 = (.ireturn, 1, 0, 0, []) := rfl
theorem zr_125_28 : z_co 125 28 = (.aload_n 0, 1, 0, 0, []) := rfl
theorem zr_125_29 : z_co 125 29 = (.getfield 76, 3, 11, 10, [450]) := rfl
theorem zr_125_32 : z_co 125 32 = (.getfield 291, 3, 2, 0, [429]) := rfl
theorem zr_125_35 : z_co 125 35 = (.iload_n 2, 1, 0, 0, []) := rfl
theorem zr_125_36 : z_co 125 36 = (.aaload, 1, 0, 0, []) := rfl
theorem zr_125_37 : z_co 125 37 = (.iload_n 1, 1, 0, 0, []) := rfl
theorem zr_125_38 : z_co 125 38 = (.iaload, 1, 0, 0, []) := rfl
theorem zr_125_39 : z_co 125 39 = (.ireturn, 1, 0, 0, []) := rfl
theorem zr_126_0 : z_co 126 0 = (.iload_n 1, 1, 0, 0, []) := rfl
theorem zr_126_1 : z_co 126 1 = (.iconst 0, 1, 0, 0, []) := rfl
theorem zr_126_2 : z_co 126 2 = (.iconst 1, 1, 0, 0, []) := rfl
theorem zr_126_3 : z_co 126 3 = (.invokestatic 121, 3, 133, 0, [496, 497]) := rfl
theorem zr_126_6 : z_co 126 6 = (.ifCond .ne 9, 3, 0, 0, []) := rfl
theorem zr_126_9 : z_co 126 9 = (.aload_n 0, 1, 0, 0, []) := rfl
theorem zr_126_10 : z_co 126 10 = (.iconst (-1), 1, 0, 0, []) := rfl
theorem zr_126_11 : z_co 126 11 = (.invokevirtual 95, 3, 130, 0, [503, 505, 0]) := rfl
theorem zr_126_14 : z_co 126 14 = (.ireturn, 1, 0, 0, []) := rfl
theorem zr_126_15 : z_co 126 15 = (.aload_n 0, 1, 0, 0, []) := rfl
theorem zr_126_16 : z_co 126 16 = (.getfield 16, 3, 11, 1, [441]) := rfl
theorem zr_126_19 : z_co 126 19 = (.iload_n 1, 1, 0, 0, []) := rfl
theorem zr_126_20 : z_co 126 20 = (.aaload, 1, 0, 0, []) := rfl
theorem zr_126_21 : z_co 126 21 = (.aload_n 0, 1, 0, 0, []) := rfl
theorem zr_126_22 : z_co 126 22 = (.getfield 12, 3, 11, 0, [440]) := rfl
theorem zr_126_25 : z_co 126 25 = (.invokevirtual 294, 3, 73, 0, [1151, 1152, 1153]) := rfl
theorem zr_126_28 : z_co 126 28 = (.aload_n 0, 1, 0, 0, []) := rfl
theorem zr_126_29 : z_co 126 29 = (.getfield 20, 3, 11, 2, [442]) := rfl
theorem zr_126_32 : z_co 126 32 = (.iload_n 1, 1, 0, 0, []) := rfl
theorem zr_126_33 : z_co 126 33 = (.iconst 1, 1, 0, 0, []) := rfl
theorem zr_126_34 : z_co 126 34 = (.bastore, 1, 0, 0, []) := rfl
theorem zr_126_35 : z_co 126 35 = (.aload_n 0, 1, 0, 0, []) := rfl
theorem zr_126_36 : z_co 126 36 = (.iconst 0, 1, 0, 0, []) := rfl
theorem zr_126_37 : z_co 126 37 = (.invokevirtual 118, 3, 131, 0, [515, 517, 2]) := rfl
theorem zr_126_40 : z_co 126 40 = (.ireturn, 1, 0, 0, []) := rfl
theorem zr_127_0 : z_co 127 0 = (.iload_n 1, 1, 0, 0, []) := rfl
theorem zr_127_1 : z_co 127 1 = (.iconst 0, 1, 0, 0, []) := rfl
theorem zr_127_2 : z_co 127 2 = (.iconst 1, 1, 0, 0, []) := rfl
theorem zr_127_3 : z_co 127 3 = (.invokestatic 121, 3, 133, 0, [496, 497]) := rfl
theorem zr_127_6 : z_co 127 6 = (.ifCond .ne 9, 3, 0, 0, []) := rfl
theorem zr_127_9 : z_co 127 9 = (.aload_n 0, 1, 0, 0, []) := rfl
theorem zr_127_10 : z_co 127 10 = (.iconst (-1), 1, 0, 0, []) := rfl
theorem zr_127_11 : z_co 127 11 = (.invokevirtual 95, 3, 130, 0, [503, 505, 0]) := rfl
theorem zr_127_14 : z_co 127 14 = (.ireturn, 1, 0, 0, []) := rfl
theorem zr_127_15 : z_co 127 15 = (.aload_n 0, 1, 0, 0, []) := rfl
theorem zr_127_16 : z_co 127 16 = (.getfield 20, 3, 11, 2, [442]) := rfl
theorem zr_127_19 : z_co 127 19 = (.iload_n 1, 1, 0, 0, []) := rfl
theorem zr_127_20 : z_co 127 20 = (.baload, 1, 0, 0, []) := rfl
theorem zr_127_21 : z_co 127 21 = (.ifCond .ne 10, 3, 0, 0, []) := rfl
theorem zr_127_24 : z_co 127 24 = (.aload_n 0, 1, 0, 0, []) := rfl
theorem zr_127_25 : z_co 127 25 = (.bipush (-2), 2, 0, 0, []) := rfl
theorem zr_127_27 : z_co 127 27 = (.invokevirtual 95, 3, 130, 0, [503, 505, 0]) := rfl
theorem zr_127_30 : z_co 127 30 = (.ireturn, 1, 0, 0, []) := rfl
theorem zr_127_31 : z_co 127 31 = (.aload_n 0, 1, 0, 0, []) := rfl
theorem zr_127_32 : z_co 127 32 = (.getfield 12, 3, 11, 0, [440]) := rfl
theorem zr_127_35 : z_co 127 35 = (.aload_n 0, 1, 0, 0, []) := rfl
theorem zr_127_36 : z_co 127 36 = (.getfield 16, 3, 11, 1, [441]) := rfl
theorem zr_127_39 : z_co 127 39 = (.iload_n 1, 1, 0, 0, []) := rfl
theorem zr_127_40 : z_co 127 40 = (.aaload, 1, 0, 0, []) := rfl
theorem zr_127_41 : z_co 127 41 = (.invokevirtual 294, 3, 73, 0, [1151, 1152, 1153]) := rfl
theorem zr_127_44 : z_co 127 44 = (.aload_n 0, 1, 0, 0, []) := rfl
theorem zr_127_45 : z_co 127 45 = (.iconst 0, 1, 0, 0, []) := rfl
theorem zr_127_46 : z_co 127 46 = (.invokevirtual 118, 3, 131, 0, [515, 517, 2]) := rfl
theorem zr_127_49 : z_co 127 49 = (.ireturn, 1, 0, 0, []) := rfl
theorem zr_128_0 : z_co 128 0 = (.iload_n 1, 1, 0, 0, []) := rfl
theorem zr_128_1 : z_co 128 1 = (.tableswitch 195 0 14 #[75, 83, 91, 99, 107, 115, 123, 131, 138, 145, 152, 159, 167, 175, 185], 75, 0, 0, []) := rfl
theorem zr_128_76 : z_co 128 76 = (.aload_n 0, 1, 0, 0, []) := rfl
theorem zr_128_77 : z_co 128 77 = (.getfield 12, 3, 11, 0, [440]) := rfl
theorem zr_128_80 : z_co 128 80 = (.getfield 236, 3, 10, 7, [166]) := rfl
theorem zr_128_83 : z_co 128 83 = (.ireturn, 1, 0, 0, []) := rfl
theorem zr_128_84 : z_co 128 84 = (.aload_n 0, 1, 0, 0, []) := rfl
theorem zr_128_85 : z_co 128 85 = (.getfield 12, 3, 11, 0, [440]) := rfl
theorem zr_128_88 : z_co 128 88 = (.getfield 259, 3, 10, 8, [171]) := rfl
theorem zr_128_91 : z_co 128 91 = (.ireturn, 1, 0, 0, []) := rfl
theorem zr_128_92 : z_co 128 92 = (.aload_n 0, 1, 0, 0, []) := rfl
theorem zr_128_93 : z_co 128 93 = (.getfield 12, 3, 11, 0, [440]) := rfl
theorem zr_128_96 : z_co 128 96 = (.getfield 160, 3, 10, 9, [173]) := rfl
theorem zr_128_99 : z_co 128 99 = (.ireturn, 1, 0, 0, []) := rfl
theorem zr_128_100 : z_co 128 100 = (.aload_n 0, 1, 0, 0, []) := rfl
theorem zr_128_101 : z_co 128 101 = (.getfield 12, 3, 11, 0, [440]) := rfl
theorem zr_128_104 : z_co 128 104 = (.getfield 197, 3, 10, 11, [179]) := rfl
theorem zr_128_107 : z_co 128 107 = (.ireturn, 1, 0, 0, []) := rfl
theorem zr_128_108 : z_co 128 108 = (.aload_n 0, 1, 0, 0, []) := rfl
theorem zr_128_109 : z_co 128 109 = (.getfield 12, 3, 11, 0, [440]) := rfl
theorem zr_128_112 : z_co 128 112 = (.invokevirtual 298, 3, 84, 0, [1167, 1168, 1169]) := rfl
theorem zr_128_115 : z_co 128 115 = (.ireturn, 1, 0, 0, []) := rfl
theorem zr_128_116 : z_co 128 116 = (.aload_n 0, 1, 0, 0, []) := rfl
theorem zr_128_117 : z_co 128 117 = (.getfield 12, 3, 11, 0, [440]) := rfl
theorem zr_128_120 : z_co 128 120 = (.getfield 279, 3, 10, 12, [181]) := rfl
theorem zr_128_123 : z_co 128 123 = (.ireturn, 1, 0, 0, []) := rfl
theorem zr_128_124 : z_co 128 124 = (.aload_n 0, 1, 0, 0, []) := rfl
theorem zr_128_125 : z_co 128 125 = (.getfield 27, 3, 11, 3, [443]) := rfl
theorem zr_128_128 : z_co 128 128 = (.getfield 147, 3, 9, 1, [222]) := rfl
theorem zr_128_131 : z_co 128 131 = (.ireturn, 1, 0, 0, []) := rfl
theorem zr_128_132 : z_co 128 132 = (.aload_n 0, 1, 0, 0, []) := rfl
theorem zr_128_133 : z_co 128 133 = (.getfield 84, 3, 11, 12, [452]) := rfl
theorem zr_128_136 : z_co 128 136 = (.iconst 1, 1, 0, 0, []) := rfl
theorem zr_128_137 : z_co 128 137 = (.iaload, 1, 0, 0, []) := rfl
theorem zr_128_138 : z_co 128 138 = (.ireturn, 1, 0, 0, []) := rfl
theorem zr_128_139 : z_co 128 139 = (.aload_n 0, 1, 0, 0, []) := rfl
theorem zr_128_140 : z_co 128 140 = (.getfield 84, 3, 11, 12, [452]) := rfl
theorem zr_128_143 : z_co 128 143 = (.iconst 2, 1, 0, 0, []) := rfl
theorem zr_128_144 : z_co 128 144 = (.iaload, 1, 0, 0, []) := rfl
theorem zr_128_145 : z_co 128 145 = (.ireturn, 1, 0, 0, []) := rfl
theorem zr_128_146 : z_co 128 146 = (.aload_n 0, 1, 0, 0, []) := rfl
theorem zr_128_147 : z_co 128 147 = (.getfield 84, 3, 11, 12, [452]) := rfl
theorem zr_128_150 : z_co 128 150 = (.iconst 3, 1, 0, 0, []) := rfl
theorem zr_128_151 : z_co 128 151 = (.iaload, 1, 0, 0, []) := rfl
theorem zr_128_152 : z_co 128 152 = (.ireturn, 1, 0, 0, []) := rfl
theorem zr_128_153 : z_co 128 153 = (.aload_n 0, 1, 0, 0, []) := rfl
theorem zr_128_154 : z_co 128 154 = (.getfield 84, 3, 11, 12, [452]) := rfl
theorem zr_128_157 : z_co 128 157 = (.iconst 5, 1, 0, 0, []) := rfl
theorem zr_128_158 : z_co 128 158 = (.iaload, 1, 0, 0, []) := rfl
theorem zr_128_159 : z_co 128 159 = (.ireturn, 1, 0, 0, []) := rfl
theorem zr_128_160 : z_co 128 160 = (.aload_n 0, 1, 0, 0, []) := rfl
theorem zr_128_161 : z_co 128 161 = (.getfield 84, 3, 11, 12, [452]) := rfl
theorem zr_128_164 : z_co 128 164 = (.bipush 6, 2, 0, 0, []) := rfl
theorem zr_128_166 : z_co 128 166 = (.iaload, 1, 0, 0, []) := rfl
theorem zr_128_167 : z_co 128 167 = (.ireturn, 1, 0, 0, []) := rfl
theorem zr_128_168 : z_co 128 168 = (.aload_n 0, 1, 0, 0, []) := rfl
theorem zr_128_169 : z_co 128 169 = (.getfield 12, 3, 11, 0, [440]) := rfl
theorem zr_128_172 : z_co 128 172 = (.getfield 172, 3, 10, 10, [175]) := rfl
theorem zr_128_175 : z_co 128 175 = (.ireturn, 1, 0, 0, []) := rfl
theorem zr_128_176 : z_co 128 176 = (.aload_n 0, 1, 0, 0, []) := rfl
theorem zr_128_177 : z_co 128 177 = (.getfield 12, 3, 11, 0, [440]) := rfl
theorem zr_128_180 : z_co 128 180 = (.getfield 144, 3, 10, 2, [155]) := rfl
theorem zr_128_183 : z_co 128 183 = (.iconst 0, 1, 0, 0, []) := rfl
theorem zr_128_184 : z_co 128 184 = (.iaload, 1, 0, 0, []) := rfl
theorem zr_128_185 : z_co 128 185 = (.ireturn, 1, 0, 0, []) := rfl
theorem zr_128_186 : z_co 128 186 = (.aload_n 0, 1, 0, 0, []) := rfl
theorem zr_128_187 : z_co 128 187 = (.getfield 12, 3, 11, 0, [440]) := rfl
theorem zr_128_190 : z_co 128 190 = (.getfield 144, 3, 10, 2, [155]) := rfl
theorem zr_128_193 : z_co 128 193 = (.iconst 1, 1, 0, 0, []) := rfl
theorem zr_128_194 : z_co 128 194 = (.iaload, 1, 0, 0, []) := rfl
theorem zr_128_195 : z_co 128 195 = (.ireturn, 1, 0, 0, []) := rfl
theorem zr_128_196 : z_co 128 196 = (.iconst (-1), 1, 0, 0, []) := rfl
theorem zr_128_197 : z_co 128 197 = (.ireturn, 1, 0, 0, []) := rfl
theorem zr_129_0 : z_co 129 0 = (.aload_n 0, 1, 0, 0, []) := rfl
theorem zr_129_1 : z_co 129 1 = (.getfield 301, 3, 11, 15, [455]) := rfl
theorem zr_129_4 : z_co 129 4 = (.ireturn, 1, 0, 0, []) := rfl
theorem zr_130_0 : z_co 130 0 = (.aload_n 0, 1, 0, 0, []) := rfl
theorem zr_130_1 : z_co 130 1 = (.iload_n 1, 1, 0, 0, []) := rfl
theorem zr_130_2 : z_co 130 2 = (.putfield 301, 3, 11, 15, [455]) := rfl
theorem zr_130_5 : z_co 130 5 = (.iload_n 1, 1, 0, 0, []) := rfl
theorem zr_130_6 : z_co 130 6 = (.ineg, 1, 0, 0, []) := rfl
theorem zr_130_7 : z_co 130 7 = (.iconst 0, 1, 0, 0, []) := rfl
theorem zr_130_8 : z_co 130 8 = (.aload_n 0, 1, 0, 0, []) := rfl
theorem zr_130_9 : z_co 130 9 = (.getfield 84, 3, 11, 12, [452]) := rfl
theorem zr_130_12 : z_co 130 12 = (.arraylength, 1, 0, 0, []) := rfl
theorem zr_130_13 : z_co 130 13 = (.iconst 1, 1, 0, 0, []) := rfl
theorem zr_130_14 : z_co 130 14 = (.isub, 1, 0, 0, []) := rfl
theorem zr_130_15 : z_co 130 15 = (.invokestatic 121, 3, 133, 0, [496, 497]) := rfl
theorem zr_130_18 : z_co 130 18 = (.ifCond .eq 14, 3, 0, 0, []) := rfl
theorem zr_130_21 : z_co 130 21 = (.aload_n 0, 1, 0, 0, []) := rfl
theorem zr_130_22 : z_co 130 22 = (.getfield 84, 3, 11, 12, [452]) := rfl
theorem zr_130_25 : z_co 130 25 = (.iload_n 1, 1, 0, 0, []) := rfl
theorem zr_130_26 : z_co 130 26 = (.ineg, 1, 0, 0, []) := rfl
theorem zr_130_27 : z_co 130 27 = (.dup2, 1, 0, 0, []) := rfl
theorem zr_130_28 : z_co 130 28 = (.iaload, 1, 0, 0, []) := rfl
theorem zr_130_29 : z_co 130 29 = (.iconst 1, 1, 0, 0, []) := rfl
theorem zr_130_30 : z_co 130 30 = (.iadd, 1, 0, 0, []) := rfl
theorem zr_130_31 : z_co 130 31 = (.iastore, 1, 0, 0, []) := rfl
theorem zr_130_32 : z_co 130 32 = (.iload_n 1, 1, 0, 0, []) := rfl
theorem zr_130_33 : z_co 130 33 = (.ireturn, 1, 0, 0, []) := rfl
theorem zr_131_0 : z_co 131 0 = (.aload_n 0, 1, 0, 0, []) := rfl
theorem zr_131_1 : z_co 131 1 = (.iconst 0, 1, 0, 0, []) := rfl
theorem zr_131_2 : z_co 131 2 = (.putfield 301, 3, 11, 15, [455]) := rfl
theorem zr_131_5 : z_co 131 5 = (.aload_n 0, 1, 0, 0, []) := rfl
theorem zr_131_6 : z_co 131 6 = (.getfield 62, 3, 11, 8, [448]) := rfl
theorem zr_131_9 : z_co 131 9 = (.getfield 216, 3, 6, 0, [391]) := rfl
theorem zr_131_12 : z_co 131 12 = (.iconst 0, 1, 0, 0, []) := rfl
theorem zr_131_13 : z_co 131 13 = (.putfield 220, 3, 8, 1, [375]) := rfl
theorem zr_131_16 : z_co 131 16 = (.aload_n 0, 1, 0, 0, []) := rfl
theorem zr_131_17 : z_co 131 17 = (.getfield 69, 3, 11, 9, [449]) := rfl
theorem zr_131_20 : z_co 131 20 = (.getfield 242, 3, 0, 0, [408]) := rfl
theorem zr_131_23 : z_co 131 23 = (.iconst 0, 1, 0, 0, []) := rfl
theorem zr_131_24 : z_co 131 24 = (.putfield 220, 3, 8, 1, [375]) := rfl
theorem zr_131_27 : z_co 131 27 = (.iload_n 1, 1, 0, 0, []) := rfl
theorem zr_131_28 : z_co 131 28 = (.ireturn, 1, 0, 0, []) := rfl
theorem zr_132_0 : z_co 132 0 = (.iload_n 1, 1, 0, 0, []) := rfl
theorem zr_132_1 : z_co 132 1 = (.iconst (-1), 1, 0, 0, []) := rfl
theorem zr_132_2 : z_co 132 2 = (.if_icmp .ne 12, 3, 0, 0, []) := rfl
theorem zr_132_5 : z_co 132 5 = (.aload_n 0, 1, 0, 0, []) := rfl
theorem zr_132_6 : z_co 132 6 = (.bipush (-5), 2, 0, 0, []) := rfl
theorem zr_132_8 : z_co 132 8 = (.invokevirtual 95, 3, 130, 0, [503, 505, 0]) := rfl
theorem zr_132_11 : z_co 132 11 = (.goto 8, 3, 0, 0, []) := rfl
theorem zr_132_14 : z_co 132 14 = (.aload_n 0, 1, 0, 0, []) := rfl
theorem zr_132_15 : z_co 132 15 = (.iload_n 1, 1, 0, 0, []) := rfl
theorem zr_132_16 : z_co 132 16 = (.invokevirtual 118, 3, 131, 0, [515, 517, 2]) := rfl
theorem zr_132_19 : z_co 132 19 = (.ireturn, 1, 0, 0, []) := rfl
theorem zr_133_0 : z_co 133 0 = (.iload_n 1, 1, 0, 0, []) := rfl
theorem zr_133_1 : z_co 133 1 = (.iload_n 0, 1, 0, 0, []) := rfl
theorem zr_133_2 : z_co 133 2 = (.if_icmp .gt 12, 3, 0, 0, []) := rfl
theorem zr_133_5 : z_co 133 5 = (.iload_n 0, 1, 0, 0, []) := rfl
theorem zr_133_6 : z_co 133 6 = (.iload_n 2, 1, 0, 0, []) := rfl
theorem zr_133_7 : z_co 133 7 = (.if_icmp .gt 7, 3, 0, 0, []) := rfl
theorem zr_133_10 : z_co 133 10 = (.iconst 1, 1, 0, 0, []) := rfl
theorem zr_133_11 : z_co 133 11 = (.goto 4, 3, 0, 0, []) := rfl
theorem zr_133_14 : z_co 133 14 = (.iconst 0, 1, 0, 0, []) := rfl
theorem zr_133_15 : z_co 133 15 = (.ireturn, 1, 0, 0, []) := rfl
theorem zr_134_0 : z_co 134 0 = (.iload_n 0, 1, 0, 0, []) := rfl
theorem zr_134_1 : z_co 134 1 = (.iconst 0, 1, 0, 0, []) := rfl
theorem zr_134_2 : z_co 134 2 = (.iconst 3, 1, 0, 0, []) := rfl
theorem zr_134_3 : z_co 134 3 = (.invokestatic 121, 3, 133, 0, [496, 497]) := rfl
theorem zr_134_6 : z_co 134 6 = (.ifCond .eq 24, 3, 0, 0, []) := rfl
theorem zr_134_9 : z_co 134 9 = (.iload_n 1, 1, 0, 0, []) := rfl
theorem zr_134_10 : z_co 134 10 = (.getstatic 304, 3, 2, 0, [499]) := rfl
theorem zr_134_13 : z_co 134 13 = (.iload_n 0, 1, 0, 0, []) := rfl
theorem zr_134_14 : z_co 134 14 = (.iaload, 1, 0, 0, []) := rfl
theorem zr_134_15 : z_co 134 15 = (.getstatic 307, 3, 3, 0, [501]) := rfl
theorem zr_134_18 : z_co 134 18 = (.iload_n 0, 1, 0, 0, []) := rfl
theorem zr_134_19 : z_co 134 19 = (.iaload, 1, 0, 0, []) := rfl
theorem zr_134_20 : z_co 134 20 = (.invokestatic 121, 3, 133, 0, [496, 497]) := rfl
theorem zr_134_23 : z_co 134 23 = (.ifCond .eq 7, 3, 0, 0, []) := rfl
theorem zr_134_26 : z_co 134 26 = (.iconst 1, 1, 0, 0, []) := rfl
theorem zr_134_27 : z_co 134 27 = (.goto 4, 3, 0, 0, []) := rfl
theorem zr_134_30 : z_co 134 30 = (.iconst 0, 1, 0, 0, []) := rfl
theorem zr_134_31 : z_co 134 31 = (.ireturn, 1, 0, 0, []) := rfl
theorem zr_135_0 : z_co 135 0 = (.iload_n 0, 1, 0, 0, []) := rfl
theorem zr_135_1 : z_co 135 1 = (.iconst 0, 1, 0, 0, []) := rfl
theorem zr_135_2 : z_co 135 2 = (.iconst 1, 1, 0, 0, []) := rfl
theorem zr_135_3 : z_co 135 3 = (.invokestatic 121, 3, 133, 0, [496, 497]) := rfl
theorem zr_135_6 : z_co 135 6 = (.ifCond .eq 20, 3, 0, 0, []) := rfl
theorem zr_135_9 : z_co 135 9 = (.iload_n 1, 1, 0, 0, []) := rfl
theorem zr_135_10 : z_co 135 10 = (.iconst 1, 1, 0, 0, []) := rfl
theorem zr_135_11 : z_co 135 11 = (.getstatic 310, 3, 4, 0, [546]) := rfl
theorem zr_135_14 : z_co 135 14 = (.iload_n 0, 1, 0, 0, []) := rfl
theorem zr_135_15 : z_co 135 15 = (.iaload, 1, 0, 0, []) := rfl
theorem zr_135_16 : z_co 135 16 = (.invokestatic 121, 3, 133, 0, [496, 497]) := rfl
theorem zr_135_19 : z_co 135 19 = (.ifCond .eq 7, 3, 0, 0, []) := rfl
theorem zr_135_22 : z_co 135 22 = (.iconst 1, 1, 0, 0, []) := rfl
theorem zr_135_23 : z_co 135 23 = (.goto 4, 3, 0, 0, []) := rfl
theorem zr_135_26 : z_co 135 26 = (.iconst 0, 1, 0, 0, []) := rfl
theorem zr_135_27 : z_co 135 27 = (.ireturn, 1, 0, 0, []) := rfl
theorem zr_136_0 : z_co 136 0 = (.aload_n 0, 1, 0, 0, []) := rfl
theorem zr_136_1 : z_co 136 1 = (.iload_n 1, 1, 0, 0, []) := rfl
theorem zr_136_2 : z_co 136 2 = (.iaload, 1, 0, 0, []) := rfl
theorem zr_136_3 : z_co 136 3 = (.istore_n 3, 1, 0, 0, []) := rfl
theorem zr_136_4 : z_co 136 4 = (.aload_n 0, 1, 0, 0, []) := rfl
theorem zr_136_5 : z_co 136 5 = (.iload_n 1, 1, 0, 0, []) := rfl
theorem zr_136_6 : z_co 136 6 = (.iload_n 2, 1, 0, 0, []) := rfl
theorem zr_136_7 : z_co 136 7 = (.iastore, 1, 0, 0, []) := rfl
theorem zr_136_8 : z_co 136 8 = (.iload_n 3, 1, 0, 0, []) := rfl
theorem zr_136_9 : z_co 136 9 = (.ireturn, 1, 0, 0, []) := rfl
theorem zr_137_0 : z_co 137 0 = (.iload_n 1, 1, 0, 0, []) := rfl
theorem zr_137_1 : z_co 137 1 = (.iconst 2, 1, 0, 0, []) := rfl
theorem zr_137_2 : z_co 137 2 = (.iadd, 1, 0, 0, []) := rfl
theorem zr_137_3 : z_co 137 3 = (.aload_n 0, 1, 0, 0, []) := rfl
theorem zr_137_4 : z_co 137 4 = (.getfield 27, 3, 11, 3, [443]) := rfl
theorem zr_137_7 : z_co 137 7 = (.getfield 147, 3, 9, 1, [222]) := rfl
theorem zr_137_10 : z_co 137 10 = (.if_icmp .lt 5, 3, 0, 0, []) := rfl
theorem zr_137_13 : z_co 137 13 = (.iconst 0, 1, 0, 0, []) := rfl
theorem zr_137_14 : z_co 137 14 = (.ireturn, 1, 0, 0, []) := rfl
theorem zr_137_15 : z_co 137 15 = (.aload_n 0, 1, 0, 0, []) := rfl
theorem zr_137_16 : z_co 137 16 = (.getfield 27, 3, 11, 3, [443]) := rfl
theorem zr_137_19 : z_co 137 19 = (.getfield 313, 3, 9, 0, [219]) := rfl
theorem zr_137_22 : z_co 137 22 = (.iload_n 1, 1, 0, 0, []) := rfl
theorem zr_137_23 : z_co 137 23 = (.iaload, 1, 0, 0, []) := rfl
theorem zr_137_24 : z_co 137 24 = (.istore_n 2, 1, 0, 0, []) := rfl
theorem zr_137_25 : z_co 137 25 = (.aload_n 0, 1, 0, 0, []) := rfl
theorem zr_137_26 : z_co 137 26 = (.getfield 27, 3, 11, 3, [443]) := rfl
theorem zr_137_29 : z_co 137 29 = (.getfield 313, 3, 9, 0, [219]) := rfl
theorem zr_137_32 : z_co 137 32 = (.iload_n 1, 1, 0, 0, []) := rfl
theorem zr_137_33 : z_co 137 33 = (.iconst 1, 1, 0, 0, []) := rfl
theorem zr_137_34 : z_co 137 34 = (.iadd, 1, 0, 0, []) := rfl
theorem zr_137_35 : z_co 137 35 = (.iaload, 1, 0, 0, []) := rfl
theorem zr_137_36 : z_co 137 36 = (.istore_n 3, 1, 0, 0, []) := rfl
theorem zr_137_37 : z_co 137 37 = (.aload_n 0, 1, 0, 0, []) := rfl
theorem zr_137_38 : z_co 137 38 = (.getfield 27, 3, 11, 3, [443]) := rfl
theorem zr_137_41 : z_co 137 41 = (.getfield 313, 3, 9, 0, [219]) := rfl
theorem zr_137_44 : z_co 137 44 = (.iload_n 1, 1, 0, 0, []) := rfl
theorem zr_137_45 : z_co 137 45 = (.iconst 2, 1, 0, 0, []) := rfl
theorem zr_137_46 : z_co 137 46 = (.iadd, 1, 0, 0, []) := rfl
theorem zr_137_47 : z_co 137 47 = (.iaload, 1, 0, 0, []) := rfl
theorem zr_137_48 : z_co 137 48 = (.istore 4, 2, 0, 0, []) := rfl
theorem zr_137_50 : z_co 137 50 = (.iconst 0, 1, 0, 0, []) := rfl
theorem zr_137_51 : z_co 137 51 = (.iload_n 2, 1, 0, 0, []) := rfl
theorem zr_137_52 : z_co 137 52 = (.invokestatic 91, 3, 134, 0, [493, 494]) := rfl
theorem zr_137_55 : z_co 137 55 = (.ifCond .eq 24, 3, 0, 0, []) := rfl
theorem zr_137_58 : z_co 137 58 = (.iconst 1, 1, 0, 0, []) := rfl
theorem zr_137_59 : z_co 137 59 = (.iload_n 3, 1, 0, 0, []) := rfl
theorem zr_137_60 : z_co 137 60 = (.invokestatic 91, 3, 134, 0, [493, 494]) := rfl
theorem zr_137_63 : z_co 137 63 = (.ifCond .eq 16, 3, 0, 0, []) := rfl
theorem zr_137_66 : z_co 137 66 = (.iconst 2, 1, 0, 0, []) := rfl
theorem zr_137_67 : z_co 137 67 = (.iload 4, 2, 0, 0, []) := rfl
theorem zr_137_69 : z_co 137 69 = (.invokestatic 91, 3, 134, 0, [493, 494]) := rfl
theorem zr_137_72 : z_co 137 72 = (.ifCond .eq 7, 3, 0, 0, []) := rfl
theorem zr_137_75 : z_co 137 75 = (.iconst 1, 1, 0, 0, []) := rfl
theorem zr_137_76 : z_co 137 76 = (.goto 4, 3, 0, 0, []) := rfl
theorem zr_137_79 : z_co 137 79 = (.iconst 0, 1, 0, 0, []) := rfl
theorem zr_137_80 : z_co 137 80 = (.istore 5, 2, 0, 0, []) := rfl
theorem zr_137_82 : z_co 137 82 = (.iload 5, 2, 0, 0, []) := rfl
theorem zr_137_84 : z_co 137 84 = (.ifCond .eq 22, 3, 0, 0, []) := rfl
theorem zr_137_87 : z_co 137 87 = (.aload_n 0, 1, 0, 0, []) := rfl
theorem zr_137_88 : z_co 137 88 = (.getfield 12, 3, 11, 0, [440]) := rfl
theorem zr_137_91 : z_co 137 91 = (.iload_n 2, 1, 0, 0, []) := rfl
theorem zr_137_92 : z_co 137 92 = (.iload_n 3, 1, 0, 0, []) := rfl
theorem zr_137_93 : z_co 137 93 = (.iload 4, 2, 0, 0, []) := rfl
theorem zr_137_95 : z_co 137 95 = (.invokevirtual 99, 3, 77, 0, [507, 508, 509]) := rfl
theorem zr_137_98 : z_co 137 98 = (.iconst (-1), 1, 0, 0, []) := rfl
theorem zr_137_99 : z_co 137 99 = (.if_icmp .eq 7, 3, 0, 0, []) := rfl
theorem zr_137_102 : z_co 137 102 = (.iconst 1, 1, 0, 0, []) := rfl
theorem zr_137_103 : z_co 137 103 = (.goto 4, 3, 0, 0, []) := rfl
theorem zr_137_106 : z_co 137 106 = (.iconst 0, 1, 0, 0, []) := rfl
theorem zr_137_107 : z_co 137 107 = (.ireturn, 1, 0, 0, []) := rfl
theorem zr_138_0 : z_co 138 0 = (.aload_n 0, 1, 0, 0, []) := rfl
theorem zr_138_1 : z_co 138 1 = (.getfield 48, 3, 11, 6, [446]) := rfl
theorem zr_138_4 : z_co 138 4 = (.aload_n 0, 1, 0, 0, []) := rfl
theorem zr_138_5 : z_co 138 5 = (.getfield 12, 3, 11, 0, [440]) := rfl
theorem zr_138_8 : z_co 138 8 = (.getstatic 250, 3, 6, 0, [834]) := rfl
theorem zr_138_11 : z_co 138 11 = (.invokevirtual 316, 3, 48, 0, [836, 837, 838]) := rfl
theorem zr_138_14 : z_co 138 14 = (.aload_n 0, 1, 0, 0, []) := rfl
theorem zr_138_15 : z_co 138 15 = (.getfield 48, 3, 11, 6, [446]) := rfl
theorem zr_138_18 : z_co 138 18 = (.aload_n 0, 1, 0, 0, []) := rfl
theorem zr_138_19 : z_co 138 19 = (.getfield 12, 3, 11, 0, [440]) := rfl
theorem zr_138_22 : z_co 138 22 = (.aload_n 0, 1, 0, 0, []) := rfl
theorem zr_138_23 : z_co 138 23 = (.getfield 41, 3, 11, 5, [445]) := rfl
theorem zr_138_26 : z_co 138 26 = (.iload_n 1, 1, 0, 0, []) := rfl
theorem zr_138_27 : z_co 138 27 = (.invokevirtual 320, 3, 49, 0, [845, 846, 847]) := rfl
theorem zr_138_30 : z_co 138 30 = (.return_, 1, 0, 0, []) := rfl
