/-! the rows: printed by a program -/
theorem zr_26_0 : z_co 26 0 = (.aload_n 0, 1, 0, 0, []) := rfl
theorem zr_26_1 : z_co 26 1 = (.ldc 78, 2, 8, 2, []) := rfl
theorem zr_26_3 : z_co 26 3 = (.invokevirtual 80, 3, 43, 0, [617, 619, 7]) := rfl
theorem zr_26_6 : z_co 26 6 = (.ifCond .eq 8, 3, 0, 0, []) := rfl
theorem zr_26_9 : z_co 26 9 = (.bipush 13, 2, 0, 0, []) := rfl
theorem zr_26_11 : z_co 26 11 = (.goto 5, 3, 0, 0, []) := rfl
theorem zr_26_14 : z_co 26 14 = (.bipush 14, 2, 0, 0, []) := rfl
theorem zr_26_16 : z_co 26 16 = (.istore_n 1, 1, 0, 0, []) := rfl
theorem zr_26_17 : z_co 26 17 = (.iload_n 1, 1, 0, 0, []) := rfl
theorem zr_26_18 : z_co 26 18 = (.bipush 14, 2, 0, 0, []) := rfl
theorem zr_26_20 : z_co 26 20 = (.if_icmp .ne 17, 3, 0, 0, []) := rfl
theorem zr_26_23 : z_co 26 23 = (.aload_n 0, 1, 0, 0, []) := rfl
theorem zr_26_24 : z_co 26 24 = (.ldc 84, 2, 9, 2, []) := rfl
theorem zr_26_26 : z_co 26 26 = (.invokevirtual 80, 3, 43, 0, [617, 619, 7]) := rfl
theorem zr_26_29 : z_co 26 29 = (.ifCond .ne 8, 3, 0, 0, []) := rfl
theorem zr_26_32 : z_co 26 32 = (.aload_n 0, 1, 0, 0, []) := rfl
theorem zr_26_33 : z_co 26 33 = (.invokevirtual 75, 3, 38, 0, [670, 672, 8]) := rfl
theorem zr_26_36 : z_co 26 36 = (.ireturn, 1, 0, 0, []) := rfl
theorem zr_26_37 : z_co 26 37 = (.aload_n 0, 1, 0, 0, []) := rfl
theorem zr_26_38 : z_co 26 38 = (.invokevirtual 52, 3, 40, 0, [601, 603, 4]) := rfl
theorem zr_26_41 : z_co 26 41 = (.iload_n 1, 1, 0, 0, []) := rfl
theorem zr_26_42 : z_co 26 42 = (.bipush 13, 2, 0, 0, []) := rfl
theorem zr_26_44 : z_co 26 44 = (.if_icmp .ne 13, 3, 0, 0, []) := rfl
theorem zr_26_47 : z_co 26 47 = (.aload_n 0, 1, 0, 0, []) := rfl
theorem zr_26_48 : z_co 26 48 = (.iconst 0, 1, 0, 0, []) := rfl
theorem zr_26_49 : z_co 26 49 = (.invokevirtual 86, 3, 32, 0, [674, 676, 9]) := rfl
theorem zr_26_52 : z_co 26 52 = (.ifCond .ne 5, 3, 0, 0, []) := rfl
theorem zr_26_55 : z_co 26 55 = (.iconst 0, 1, 0, 0, []) := rfl
theorem zr_26_56 : z_co 26 56 = (.ireturn, 1, 0, 0, []) := rfl
theorem zr_26_57 : z_co 26 57 = (.aload_n 0, 1, 0, 0, []) := rfl
theorem zr_26_58 : z_co 26 58 = (.ldc 90, 2, 10, 2, []) := rfl
theorem zr_26_60 : z_co 26 60 = (.invokevirtual 80, 3, 43, 0, [617, 619, 7]) := rfl
theorem zr_26_63 : z_co 26 63 = (.ifCond .eq 25, 3, 0, 0, []) := rfl
theorem zr_26_66 : z_co 26 66 = (.aload_n 0, 1, 0, 0, []) := rfl
theorem zr_26_67 : z_co 26 67 = (.invokevirtual 52, 3, 40, 0, [601, 603, 4]) := rfl
theorem zr_26_70 : z_co 26 70 = (.aload_n 0, 1, 0, 0, []) := rfl
theorem zr_26_71 : z_co 26 71 = (.iconst 0, 1, 0, 0, []) := rfl
theorem zr_26_72 : z_co 26 72 = (.invokevirtual 92, 3, 27, 0, [716, 718, 17]) := rfl
theorem zr_26_75 : z_co 26 75 = (.ifCond .ne 5, 3, 0, 0, []) := rfl
theorem zr_26_78 : z_co 26 78 = (.iconst 0, 1, 0, 0, []) := rfl
theorem zr_26_79 : z_co 26 79 = (.ireturn, 1, 0, 0, []) := rfl
theorem zr_26_80 : z_co 26 80 = (.aload_n 0, 1, 0, 0, []) := rfl
theorem zr_26_81 : z_co 26 81 = (.bipush 12, 2, 0, 0, []) := rfl
theorem zr_26_83 : z_co 26 83 = (.iconst 0, 1, 0, 0, []) := rfl
theorem zr_26_84 : z_co 26 84 = (.invokevirtual 95, 3, 37, 0, [711, 713, 16]) := rfl
theorem zr_26_87 : z_co 26 87 = (.pop, 1, 0, 0, []) := rfl
theorem zr_26_88 : z_co 26 88 = (.aload_n 0, 1, 0, 0, []) := rfl
theorem zr_26_89 : z_co 26 89 = (.iload_n 1, 1, 0, 0, []) := rfl
theorem zr_26_90 : z_co 26 90 = (.iconst 0, 1, 0, 0, []) := rfl
theorem zr_26_91 : z_co 26 91 = (.invokevirtual 95, 3, 37, 0, [711, 713, 16]) := rfl
theorem zr_26_94 : z_co 26 94 = (.pop, 1, 0, 0, []) := rfl
theorem zr_26_95 : z_co 26 95 = (.iconst 1, 1, 0, 0, []) := rfl
theorem zr_26_96 : z_co 26 96 = (.ireturn, 1, 0, 0, []) := rfl
theorem zr_27_0 : z_co 27 0 = (.aload_n 0, 1, 0, 0, []) := rfl
theorem zr_27_1 : z_co 27 1 = (.iload_n 1, 1, 0, 0, []) := rfl
theorem zr_27_2 : z_co 27 2 = (.invokevirtual 98, 3, 28, 0, [720, 722, 18]) := rfl
theorem zr_27_5 : z_co 27 5 = (.ifCond .ne 5, 3, 0, 0, []) := rfl
theorem zr_27_8 : z_co 27 8 = (.iconst 0, 1, 0, 0, []) := rfl
theorem zr_27_9 : z_co 27 9 = (.ireturn, 1, 0, 0, []) := rfl
theorem zr_27_10 : z_co 27 10 = (.iconst 0, 1, 0, 0, []) := rfl
theorem zr_27_11 : z_co 27 11 = (.istore_n 2, 1, 0, 0, []) := rfl
theorem zr_27_12 : z_co 27 12 = (.iload_n 2, 1, 0, 0, []) := rfl
theorem zr_27_13 : z_co 27 13 = (.sipush 400, 3, 0, 0, []) := rfl
theorem zr_27_16 : z_co 27 16 = (.if_icmp .ge 50, 3, 0, 0, []) := rfl
theorem zr_27_19 : z_co 27 19 = (.aload_n 0, 1, 0, 0, []) := rfl
theorem zr_27_20 : z_co 27 20 = (.ldc 101, 2, 11, 2, []) := rfl
theorem zr_27_22 : z_co 27 22 = (.invokevirtual 80, 3, 43, 0, [617, 619, 7]) := rfl
theorem zr_27_25 : z_co 27 25 = (.ifCond .eq 41, 3, 0, 0, []) := rfl
theorem zr_27_28 : z_co 27 28 = (.aload_n 0, 1, 0, 0, []) := rfl
theorem zr_27_29 : z_co 27 29 = (.bipush 10, 2, 0, 0, []) := rfl
theorem zr_27_31 : z_co 27 31 = (.iconst 0, 1, 0, 0, []) := rfl
theorem zr_27_32 : z_co 27 32 = (.invokevirtual 95, 3, 37, 0, [711, 713, 16]) := rfl
theorem zr_27_35 : z_co 27 35 = (.istore_n 3, 1, 0, 0, []) := rfl
theorem zr_27_36 : z_co 27 36 = (.aload_n 0, 1, 0, 0, []) := rfl
theorem zr_27_37 : z_co 27 37 = (.invokevirtual 52, 3, 40, 0, [601, 603, 4]) := rfl
theorem zr_27_40 : z_co 27 40 = (.aload_n 0, 1, 0, 0, []) := rfl
theorem zr_27_41 : z_co 27 41 = (.iload_n 1, 1, 0, 0, []) := rfl
theorem zr_27_42 : z_co 27 42 = (.invokevirtual 98, 3, 28, 0, [720, 722, 18]) := rfl
theorem zr_27_45 : z_co 27 45 = (.ifCond .ne 5, 3, 0, 0, []) := rfl
theorem zr_27_48 : z_co 27 48 = (.iconst 0, 1, 0, 0, []) := rfl
theorem zr_27_49 : z_co 27 49 = (.ireturn, 1, 0, 0, []) := rfl
theorem zr_27_50 : z_co 27 50 = (.aload_n 0, 1, 0, 0, []) := rfl
theorem zr_27_51 : z_co 27 51 = (.getfield 15, 3, 5, 1, [236]) := rfl
theorem zr_27_54 : z_co 27 54 = (.iload_n 3, 1, 0, 0, []) := rfl
theorem zr_27_55 : z_co 27 55 = (.aload_n 0, 1, 0, 0, []) := rfl
theorem zr_27_56 : z_co 27 56 = (.getfield 43, 3, 5, 3, [238]) := rfl
theorem zr_27_59 : z_co 27 59 = (.iastore, 1, 0, 0, []) := rfl
theorem zr_27_60 : z_co 27 60 = (.iinc 2 1, 3, 0, 0, []) := rfl
theorem zr_27_63 : z_co 27 63 = (.goto (-51), 3, 0, 0, []) := rfl
theorem zr_27_66 : z_co 27 66 = (.iconst 1, 1, 0, 0, []) := rfl
theorem zr_27_67 : z_co 27 67 = (.ireturn, 1, 0, 0, []) := rfl
theorem zr_28_0 : z_co 28 0 = (.aload_n 0, 1, 0, 0, []) := rfl
theorem zr_28_1 : z_co 28 1 = (.iload_n 1, 1, 0, 0, []) := rfl
theorem zr_28_2 : z_co 28 2 = (.invokevirtual 103, 3, 29, 0, [724, 726, 19]) := rfl
theorem zr_28_5 : z_co 28 5 = (.ifCond .ne 5, 3, 0, 0, []) := rfl
theorem zr_28_8 : z_co 28 8 = (.iconst 0, 1, 0, 0, []) := rfl
theorem zr_28_9 : z_co 28 9 = (.ireturn, 1, 0, 0, []) := rfl
theorem zr_28_10 : z_co 28 10 = (.iconst 0, 1, 0, 0, []) := rfl
theorem zr_28_11 : z_co 28 11 = (.istore_n 2, 1, 0, 0, []) := rfl
theorem zr_28_12 : z_co 28 12 = (.iload_n 2, 1, 0, 0, []) := rfl
theorem zr_28_13 : z_co 28 13 = (.sipush 400, 3, 0, 0, []) := rfl
theorem zr_28_16 : z_co 28 16 = (.if_icmp .ge 50, 3, 0, 0, []) := rfl
theorem zr_28_19 : z_co 28 19 = (.aload_n 0, 1, 0, 0, []) := rfl
theorem zr_28_20 : z_co 28 20 = (.ldc 106, 2, 12, 2, []) := rfl
theorem zr_28_22 : z_co 28 22 = (.invokevirtual 80, 3, 43, 0, [617, 619, 7]) := rfl
theorem zr_28_25 : z_co 28 25 = (.ifCond .eq 41, 3, 0, 0, []) := rfl
theorem zr_28_28 : z_co 28 28 = (.aload_n 0, 1, 0, 0, []) := rfl
theorem zr_28_29 : z_co 28 29 = (.bipush 11, 2, 0, 0, []) := rfl
theorem zr_28_31 : z_co 28 31 = (.iconst 0, 1, 0, 0, []) := rfl
theorem zr_28_32 : z_co 28 32 = (.invokevirtual 95, 3, 37, 0, [711, 713, 16]) := rfl
theorem zr_28_35 : z_co 28 35 = (.istore_n 3, 1, 0, 0, []) := rfl
theorem zr_28_36 : z_co 28 36 = (.aload_n 0, 1, 0, 0, []) := rfl
theorem zr_28_37 : z_co 28 37 = (.invokevirtual 52, 3, 40, 0, [601, 603, 4]) := rfl
theorem zr_28_40 : z_co 28 40 = (.aload_n 0, 1, 0, 0, []) := rfl
theorem zr_28_41 : z_co 28 41 = (.iload_n 1, 1, 0, 0, []) := rfl
theorem zr_28_42 : z_co 28 42 = (.invokevirtual 103, 3, 29, 0, [724, 726, 19]) := rfl
theorem zr_28_45 : z_co 28 45 = (.ifCond .ne 5, 3, 0, 0, []) := rfl
theorem zr_28_48 : z_co 28 48 = (.iconst 0, 1, 0, 0, []) := rfl
theorem zr_28_49 : z_co 28 49 = (.ireturn, 1, 0, 0, []) := rfl
theorem zr_28_50 : z_co 28 50 = (.aload_n 0, 1, 0, 0, []) := rfl
theorem zr_28_51 : z_co 28 51 = (.getfield 15, 3, 5, 1, [236]) := rfl
theorem zr_28_54 : z_co 28 54 = (.iload_n 3, 1, 0, 0, []) := rfl
theorem zr_28_55 : z_co 28 55 = (.aload_n 0, 1, 0, 0, []) := rfl
theorem zr_28_56 : z_co 28 56 = (.getfield 43, 3, 5, 3, [238]) := rfl
theorem zr_28_59 : z_co 28 59 = (.iastore, 1, 0, 0, []) := rfl
theorem zr_28_60 : z_co 28 60 = (.iinc 2 1, 3, 0, 0, []) := rfl
theorem zr_28_63 : z_co 28 63 = (.goto (-51), 3, 0, 0, []) := rfl
theorem zr_28_66 : z_co 28 66 = (.iconst 1, 1, 0, 0, []) := rfl
theorem zr_28_67 : z_co 28 67 = (.ireturn, 1, 0, 0, []) := rfl
theorem zr_29_0 : z_co 29 0 = (.iconst 0, 1, 0, 0, []) := rfl
theorem zr_29_1 : z_co 29 1 = (.istore_n 2, 1, 0, 0, []) := rfl
theorem zr_29_2 : z_co 29 2 = (.iconst 0, 1, 0, 0, []) := rfl
theorem zr_29_3 : z_co 29 3 = (.istore_n 3, 1, 0, 0, []) := rfl
theorem zr_29_4 : z_co 29 4 = (.iload_n 3, 1, 0, 0, []) := rfl
theorem zr_29_5 : z_co 29 5 = (.sipush 400, 3, 0, 0, []) := rfl
theorem zr_29_8 : z_co 29 8 = (.if_icmp .ge 32, 3, 0, 0, []) := rfl
theorem zr_29_11 : z_co 29 11 = (.aload_n 0, 1, 0, 0, []) := rfl
theorem zr_29_12 : z_co 29 12 = (.ldc 108, 2, 13, 2, []) := rfl
theorem zr_29_14 : z_co 29 14 = (.invokevirtual 80, 3, 43, 0, [617, 619, 7]) := rfl
theorem zr_29_17 : z_co 29 17 = (.ifCond .eq 23, 3, 0, 0, []) := rfl
theorem zr_29_20 : z_co 29 20 = (.iload_n 2, 1, 0, 0, []) := rfl
theorem zr_29_21 : z_co 29 21 = (.ifCond .ne 7, 3, 0, 0, []) := rfl
theorem zr_29_24 : z_co 29 24 = (.iconst 1, 1, 0, 0, []) := rfl
theorem zr_29_25 : z_co 29 25 = (.goto 4, 3, 0, 0, []) := rfl
theorem zr_29_28 : z_co 29 28 = (.iconst 0, 1, 0, 0, []) := rfl
theorem zr_29_29 : z_co 29 29 = (.istore_n 2, 1, 0, 0, []) := rfl
theorem zr_29_30 : z_co 29 30 = (.aload_n 0, 1, 0, 0, []) := rfl
theorem zr_29_31 : z_co 29 31 = (.invokevirtual 52, 3, 40, 0, [601, 603, 4]) := rfl
theorem zr_29_34 : z_co 29 34 = (.iinc 3 1, 3, 0, 0, []) := rfl
theorem zr_29_37 : z_co 29 37 = (.goto (-33), 3, 0, 0, []) := rfl
theorem zr_29_40 : z_co 29 40 = (.aload_n 0, 1, 0, 0, []) := rfl
theorem zr_29_41 : z_co 29 41 = (.bipush 40, 2, 0, 0, []) := rfl
theorem zr_29_43 : z_co 29 43 = (.invokevirtual 110, 3, 42, 0, [686, 688, 12]) := rfl
theorem zr_29_46 : z_co 29 46 = (.ifCond .eq 13, 3, 0, 0, []) := rfl
theorem zr_29_49 : z_co 29 49 = (.aload_n 0, 1, 0, 0, []) := rfl
theorem zr_29_50 : z_co 29 50 = (.iload_n 1, 1, 0, 0, []) := rfl
theorem zr_29_51 : z_co 29 51 = (.invokevirtual 113, 3, 30, 0, [729, 731, 20]) := rfl
theorem zr_29_54 : z_co 29 54 = (.ifCond .ne 51, 3, 0, 0, []) := rfl
theorem zr_29_57 : z_co 29 57 = (.iconst 0, 1, 0, 0, []) := rfl
theorem zr_29_58 : z_co 29 58 = (.ireturn, 1, 0, 0, []) := rfl
theorem zr_29_59 : z_co 29 59 = (.aload_n 0, 1, 0, 0, []) := rfl
theorem zr_29_60 : z_co 29 60 = (.iload_n 1, 1, 0, 0, []) := rfl
theorem zr_29_61 : z_co 29 61 = (.invokevirtual 86, 3, 32, 0, [674, 676, 9]) := rfl
theorem zr_29_64 : z_co 29 64 = (.ifCond .ne 5, 3, 0, 0, []) := rfl
theorem zr_29_67 : z_co 29 67 = (.iconst 0, 1, 0, 0, []) := rfl
theorem zr_29_68 : z_co 29 68 = (.ireturn, 1, 0, 0, []) := rfl
theorem zr_29_69 : z_co 29 69 = (.aload_n 0, 1, 0, 0, []) := rfl
theorem zr_29_70 : z_co 29 70 = (.invokevirtual 116, 3, 31, 0, [733, 735, 21]) := rfl
theorem zr_29_73 : z_co 29 73 = (.istore_n 3, 1, 0, 0, []) := rfl
theorem zr_29_74 : z_co 29 74 = (.iload_n 3, 1, 0, 0, []) := rfl
theorem zr_29_75 : z_co 29 75 = (.iconst (-1), 1, 0, 0, []) := rfl
theorem zr_29_76 : z_co 29 76 = (.if_icmp .ne 8, 3, 0, 0, []) := rfl
theorem zr_29_79 : z_co 29 79 = (.aload_n 0, 1, 0, 0, []) := rfl
theorem zr_29_80 : z_co 29 80 = (.invokevirtual 75, 3, 38, 0, [670, 672, 8]) := rfl
theorem zr_29_83 : z_co 29 83 = (.ireturn, 1, 0, 0, []) := rfl
theorem zr_29_84 : z_co 29 84 = (.aload_n 0, 1, 0, 0, []) := rfl
theorem zr_29_85 : z_co 29 85 = (.invokevirtual 52, 3, 40, 0, [601, 603, 4]) := rfl
theorem zr_29_88 : z_co 29 88 = (.aload_n 0, 1, 0, 0, []) := rfl
theorem zr_29_89 : z_co 29 89 = (.iload_n 1, 1, 0, 0, []) := rfl
theorem zr_29_90 : z_co 29 90 = (.invokevirtual 86, 3, 32, 0, [674, 676, 9]) := rfl
theorem zr_29_93 : z_co 29 93 = (.ifCond .ne 5, 3, 0, 0, []) := rfl
theorem zr_29_96 : z_co 29 96 = (.iconst 0, 1, 0, 0, []) := rfl
theorem zr_29_97 : z_co 29 97 = (.ireturn, 1, 0, 0, []) := rfl
theorem zr_29_98 : z_co 29 98 = (.aload_n 0, 1, 0, 0, []) := rfl
theorem zr_29_99 : z_co 29 99 = (.iload_n 3, 1, 0, 0, []) := rfl
theorem zr_29_100 : z_co 29 100 = (.iconst 0, 1, 0, 0, []) := rfl
theorem zr_29_101 : z_co 29 101 = (.invokevirtual 95, 3, 37, 0, [711, 713, 16]) := rfl
theorem zr_29_104 : z_co 29 104 = (.pop, 1, 0, 0, []) := rfl
theorem zr_29_105 : z_co 29 105 = (.iload_n 2, 1, 0, 0, []) := rfl
theorem zr_29_106 : z_co 29 106 = (.ifCond .eq 11, 3, 0, 0, []) := rfl
theorem zr_29_109 : z_co 29 109 = (.aload_n 0, 1, 0, 0, []) := rfl
theorem zr_29_110 : z_co 29 110 = (.bipush 9, 2, 0, 0, []) := rfl
theorem zr_29_112 : z_co 29 112 = (.iconst 0, 1, 0, 0, []) := rfl
theorem zr_29_113 : z_co 29 113 = (.invokevirtual 95, 3, 37, 0, [711, 713, 16]) := rfl
theorem zr_29_116 : z_co 29 116 = (.pop, 1, 0, 0, []) := rfl
theorem zr_29_117 : z_co 29 117 = (.iconst 1, 1, 0, 0, []) := rfl
theorem zr_29_118 : z_co 29 118 = (.ireturn, 1, 0, 0, []) := rfl
theorem zr_30_0 : z_co 30 0 = (.iload_n 1, 1, 0, 0, []) := rfl
theorem zr_30_1 : z_co 30 1 = (.bipush 8, 2, 0, 0, []) := rfl
theorem zr_30_3 : z_co 30 3 = (.if_icmp .lt 8, 3, 0, 0, []) := rfl
theorem zr_30_6 : z_co 30 6 = (.aload_n 0, 1, 0, 0, []) := rfl
theorem zr_30_7 : z_co 30 7 = (.invokevirtual 75, 3, 38, 0, [670, 672, 8]) := rfl
theorem zr_30_10 : z_co 30 10 = (.ireturn, 1, 0, 0, []) := rfl
theorem zr_30_11 : z_co 30 11 = (.aload_n 0, 1, 0, 0, []) := rfl
theorem zr_30_12 : z_co 30 12 = (.invokevirtual 52, 3, 40, 0, [601, 603, 4]) := rfl
theorem zr_30_15 : z_co 30 15 = (.aload_n 0, 1, 0, 0, []) := rfl
theorem zr_30_16 : z_co 30 16 = (.iload_n 1, 1, 0, 0, []) := rfl
theorem zr_30_17 : z_co 30 17 = (.iconst 1, 1, 0, 0, []) := rfl
theorem zr_30_18 : z_co 30 18 = (.iadd, 1, 0, 0, []) := rfl
theorem zr_30_19 : z_co 30 19 = (.invokevirtual 92, 3, 27, 0, [716, 718, 17]) := rfl
theorem zr_30_22 : z_co 30 22 = (.ifCond .eq 16, 3, 0, 0, []) := rfl
theorem zr_30_25 : z_co 30 25 = (.aload_n 0, 1, 0, 0, []) := rfl
theorem zr_30_26 : z_co 30 26 = (.bipush 41, 2, 0, 0, []) := rfl
theorem zr_30_28 : z_co 30 28 = (.invokevirtual 71, 3, 39, 0, [690, 692, 13]) := rfl
theorem zr_30_31 : z_co 30 31 = (.ifCond .eq 7, 3, 0, 0, []) := rfl
theorem zr_30_34 : z_co 30 34 = (.iconst 1, 1, 0, 0, []) := rfl
theorem zr_30_35 : z_co 30 35 = (.goto 4, 3, 0, 0, []) := rfl
theorem zr_30_38 : z_co 30 38 = (.iconst 0, 1, 0, 0, []) := rfl
theorem zr_30_39 : z_co 30 39 = (.ireturn, 1, 0, 0, []) := rfl
theorem zr_31_0 : z_co 31 0 = (.aload_n 0, 1, 0, 0, []) := rfl
theorem zr_31_1 : z_co 31 1 = (.bipush 60, 2, 0, 0, []) := rfl
theorem zr_31_3 : z_co 31 3 = (.invokevirtual 110, 3, 42, 0, [686, 688, 12]) := rfl
theorem zr_31_6 : z_co 31 6 = (.ifCond .eq 6, 3, 0, 0, []) := rfl
theorem zr_31_9 : z_co 31 9 = (.bipush 6, 2, 0, 0, []) := rfl
theorem zr_31_11 : z_co 31 11 = (.ireturn, 1, 0, 0, []) := rfl
theorem zr_31_12 : z_co 31 12 = (.aload_n 0, 1, 0, 0, []) := rfl
theorem zr_31_13 : z_co 31 13 = (.bipush 62, 2, 0, 0, []) := rfl
theorem zr_31_15 : z_co 31 15 = (.invokevirtual 110, 3, 42, 0, [686, 688, 12]) := rfl
theorem zr_31_18 : z_co 31 18 = (.ifCond .eq 6, 3, 0, 0, []) := rfl
theorem zr_31_21 : z_co 31 21 = (.bipush 7, 2, 0, 0, []) := rfl
theorem zr_31_23 : z_co 31 23 = (.ireturn, 1, 0, 0, []) := rfl
theorem zr_31_24 : z_co 31 24 = (.aload_n 0, 1, 0, 0, []) := rfl
theorem zr_31_25 : z_co 31 25 = (.bipush 61, 2, 0, 0, []) := rfl
theorem zr_31_27 : z_co 31 27 = (.invokevirtual 110, 3, 42, 0, [686, 688, 12]) := rfl
theorem zr_31_30 : z_co 31 30 = (.ifCond .eq 8, 3, 0, 0, []) := rfl
theorem zr_31_33 : z_co 31 33 = (.bipush 8, 2, 0, 0, []) := rfl
theorem zr_31_35 : z_co 31 35 = (.goto 4, 3, 0, 0, []) := rfl
theorem zr_31_38 : z_co 31 38 = (.iconst (-1), 1, 0, 0, []) := rfl
theorem zr_31_39 : z_co 31 39 = (.ireturn, 1, 0, 0, []) := rfl
theorem zr_32_0 : z_co 32 0 = (.aload_n 0, 1, 0, 0, []) := rfl
theorem zr_32_1 : z_co 32 1 = (.iload_n 1, 1, 0, 0, []) := rfl
theorem zr_32_2 : z_co 32 2 = (.invokevirtual 120, 3, 33, 0, [678, 680, 10]) := rfl
theorem zr_32_5 : z_co 32 5 = (.ifCond .ne 5, 3, 0, 0, []) := rfl
theorem zr_32_8 : z_co 32 8 = (.iconst 0, 1, 0, 0, []) := rfl
theorem zr_32_9 : z_co 32 9 = (.ireturn, 1, 0, 0, []) := rfl
theorem zr_32_10 : z_co 32 10 = (.iconst 0, 1, 0, 0, []) := rfl
theorem zr_32_11 : z_co 32 11 = (.istore_n 2, 1, 0, 0, []) := rfl
theorem zr_32_12 : z_co 32 12 = (.iload_n 2, 1, 0, 0, []) := rfl
theorem zr_32_13 : z_co 32 13 = (.sipush 400, 3, 0, 0, []) := rfl
theorem zr_32_16 : z_co 32 16 = (.if_icmp .ge 63, 3, 0, 0, []) := rfl
theorem zr_32_19 : z_co 32 19 = (.aload_n 0, 1, 0, 0, []) := rfl
theorem zr_32_20 : z_co 32 20 = (.bipush 43, 2, 0, 0, []) := rfl
theorem zr_32_22 : z_co 32 22 = (.invokevirtual 110, 3, 42, 0, [686, 688, 12]) := rfl
theorem zr_32_25 : z_co 32 25 = (.ifCond .ne 12, 3, 0, 0, []) := rfl
theorem zr_32_28 : z_co 32 28 = (.aload_n 0, 1, 0, 0, []) := rfl
theorem zr_32_29 : z_co 32 29 = (.bipush 45, 2, 0, 0, []) := rfl
theorem zr_32_31 : z_co 32 31 = (.invokevirtual 110, 3, 42, 0, [686, 688, 12]) := rfl
theorem zr_32_34 : z_co 32 34 = (.ifCond .eq 45, 3, 0, 0, []) := rfl
theorem zr_32_37 : z_co 32 37 = (.aload_n 0, 1, 0, 0, []) := rfl
theorem zr_32_38 : z_co 32 38 = (.bipush 43, 2, 0, 0, []) := rfl
theorem zr_32_40 : z_co 32 40 = (.invokevirtual 110, 3, 42, 0, [686, 688, 12]) := rfl
theorem zr_32_43 : z_co 32 43 = (.ifCond .eq 7, 3, 0, 0, []) := rfl
theorem zr_32_46 : z_co 32 46 = (.iconst 2, 1, 0, 0, []) := rfl
theorem zr_32_47 : z_co 32 47 = (.goto 4, 3, 0, 0, []) := rfl
theorem zr_32_50 : z_co 32 50 = (.iconst 3, 1, 0, 0, []) := rfl
theorem zr_32_51 : z_co 32 51 = (.istore_n 3, 1, 0, 0, []) := rfl
theorem zr_32_52 : z_co 32 52 = (.aload_n 0, 1, 0, 0, []) := rfl
theorem zr_32_53 : z_co 32 53 = (.invokevirtual 52, 3, 40, 0, [601, 603, 4]) := rfl
theorem zr_32_56 : z_co 32 56 = (.aload_n 0, 1, 0, 0, []) := rfl
theorem zr_32_57 : z_co 32 57 = (.iload_n 1, 1, 0, 0, []) := rfl
theorem zr_32_58 : z_co 32 58 = (.invokevirtual 120, 3, 33, 0, [678, 680, 10]) := rfl
theorem zr_32_61 : z_co 32 61 = (.ifCond .ne 5, 3, 0, 0, []) := rfl
theorem zr_32_64 : z_co 32 64 = (.iconst 0, 1, 0, 0, []) := rfl
theorem zr_32_65 : z_co 32 65 = (.ireturn, 1, 0, 0, []) := rfl
theorem zr_32_66 : z_co 32 66 = (.aload_n 0, 1, 0, 0, []) := rfl
theorem zr_32_67 : z_co 32 67 = (.iload_n 3, 1, 0, 0, []) := rfl
theorem zr_32_68 : z_co 32 68 = (.iconst 0, 1, 0, 0, []) := rfl
theorem zr_32_69 : z_co 32 69 = (.invokevirtual 95, 3, 37, 0, [711, 713, 16]) := rfl
theorem zr_32_72 : z_co 32 72 = (.pop, 1, 0, 0, []) := rfl
theorem zr_32_73 : z_co 32 73 = (.iinc 2 1, 3, 0, 0, []) := rfl
theorem zr_32_76 : z_co 32 76 = (.goto (-64), 3, 0, 0, []) := rfl
theorem zr_32_79 : z_co 32 79 = (.iconst 1, 1, 0, 0, []) := rfl
theorem zr_32_80 : z_co 32 80 = (.ireturn, 1, 0, 0, []) := rfl
theorem zr_33_0 : z_co 33 0 = (.aload_n 0, 1, 0, 0, []) := rfl
theorem zr_33_1 : z_co 33 1 = (.iload_n 1, 1, 0, 0, []) := rfl
theorem zr_33_2 : z_co 33 2 = (.invokevirtual 123, 3, 34, 0, [682, 684, 11]) := rfl
theorem zr_33_5 : z_co 33 5 = (.ifCond .ne 5, 3, 0, 0, []) := rfl
theorem zr_33_8 : z_co 33 8 = (.iconst 0, 1, 0, 0, []) := rfl
theorem zr_33_9 : z_co 33 9 = (.ireturn, 1, 0, 0, []) := rfl
theorem zr_33_10 : z_co 33 10 = (.iconst 0, 1, 0, 0, []) := rfl
theorem zr_33_11 : z_co 33 11 = (.istore_n 2, 1, 0, 0, []) := rfl
theorem zr_33_12 : z_co 33 12 = (.iload_n 2, 1, 0, 0, []) := rfl
theorem zr_33_13 : z_co 33 13 = (.sipush 400, 3, 0, 0, []) := rfl
theorem zr_33_16 : z_co 33 16 = (.if_icmp .ge 63, 3, 0, 0, []) := rfl
theorem zr_33_19 : z_co 33 19 = (.aload_n 0, 1, 0, 0, []) := rfl
theorem zr_33_20 : z_co 33 20 = (.bipush 42, 2, 0, 0, []) := rfl
theorem zr_33_22 : z_co 33 22 = (.invokevirtual 110, 3, 42, 0, [686, 688, 12]) := rfl
theorem zr_33_25 : z_co 33 25 = (.ifCond .ne 12, 3, 0, 0, []) := rfl
theorem zr_33_28 : z_co 33 28 = (.aload_n 0, 1, 0, 0, []) := rfl
theorem zr_33_29 : z_co 33 29 = (.bipush 47, 2, 0, 0, []) := rfl
theorem zr_33_31 : z_co 33 31 = (.invokevirtual 110, 3, 42, 0, [686, 688, 12]) := rfl
theorem zr_33_34 : z_co 33 34 = (.ifCond .eq 45, 3, 0, 0, []) := rfl
theorem zr_33_37 : z_co 33 37 = (.aload_n 0, 1, 0, 0, []) := rfl
theorem zr_33_38 : z_co 33 38 = (.bipush 42, 2, 0, 0, []) := rfl
theorem zr_33_40 : z_co 33 40 = (.invokevirtual 110, 3, 42, 0, [686, 688, 12]) := rfl
theorem zr_33_43 : z_co 33 43 = (.ifCond .eq 7, 3, 0, 0, []) := rfl
theorem zr_33_46 : z_co 33 46 = (.iconst 4, 1, 0, 0, []) := rfl
theorem zr_33_47 : z_co 33 47 = (.goto 4, 3, 0, 0, []) := rfl
theorem zr_33_50 : z_co 33 50 = (.iconst 5, 1, 0, 0, []) := rfl
theorem zr_33_51 : z_co 33 51 = (.istore_n 3, 1, 0, 0, []) := rfl
theorem zr_33_52 : z_co 33 52 = (.aload_n 0, 1, 0, 0, []) := rfl
theorem zr_33_53 : z_co 33 53 = (.invokevirtual 52, 3, 40, 0, [601, 603, 4]) := rfl
theorem zr_33_56 : z_co 33 56 = (.aload_n 0, 1, 0, 0, []) := rfl
theorem zr_33_57 : z_co 33 57 = (.iload_n 1, 1, 0, 0, []) := rfl
theorem zr_33_58 : z_co 33 58 = (.invokevirtual 123, 3, 34, 0, [682, 684, 11]) := rfl
theorem zr_33_61 : z_co 33 61 = (.ifCond .ne 5, 3, 0, 0, []) := rfl
theorem zr_33_64 : z_co 33 64 = (.iconst 0, 1, 0, 0, []) := rfl
theorem zr_33_65 : z_co 33 65 = (.ireturn, 1, 0, 0, []) := rfl
theorem zr_33_66 : z_co 33 66 = (.aload_n 0, 1, 0, 0, []) := rfl
theorem zr_33_67 : z_co 33 67 = (.iload_n 3, 1, 0, 0, []) := rfl
theorem zr_33_68 : z_co 33 68 = (.iconst 0, 1, 0, 0, []) := rfl
theorem zr_33_69 : z_co 33 69 = (.invokevirtual 95, 3, 37, 0, [711, 713, 16]) := rfl
theorem zr_33_72 : z_co 33 72 = (.pop, 1, 0, 0, []) := rfl
theorem zr_33_73 : z_co 33 73 = (.iinc 2 1, 3, 0, 0, []) := rfl
theorem zr_33_76 : z_co 33 76 = (.goto (-64), 3, 0, 0, []) := rfl
theorem zr_33_79 : z_co 33 79 = (.iconst 1, 1, 0, 0, []) := rfl
theorem zr_33_80 : z_co 33 80 = (.ireturn, 1, 0, 0, []) := rfl
theorem zr_34_0 : z_co 34 0 = (.aload_n 0, 1, 0, 0, []) := rfl
theorem zr_34_1 : z_co 34 1 = (.bipush 91, 2, 0, 0, []) := rfl
theorem zr_34_3 : z_co 34 3 = (.invokevirtual 110, 3, 42, 0, [686, 688, 12]) := rfl
theorem zr_34_6 : z_co 34 6 = (.ifCond .eq 43, 3, 0, 0, []) := rfl
theorem zr_34_9 : z_co 34 9 = (.iload_n 1, 1, 0, 0, []) := rfl
theorem zr_34_10 : z_co 34 10 = (.bipush 8, 2, 0, 0, []) := rfl
theorem zr_34_12 : z_co 34 12 = (.if_icmp .lt 8, 3, 0, 0, []) := rfl
theorem zr_34_15 : z_co 34 15 = (.aload_n 0, 1, 0, 0, []) := rfl
theorem zr_34_16 : z_co 34 16 = (.invokevirtual 75, 3, 38, 0, [670, 672, 8]) := rfl
theorem zr_34_19 : z_co 34 19 = (.ireturn, 1, 0, 0, []) := rfl
theorem zr_34_20 : z_co 34 20 = (.aload_n 0, 1, 0, 0, []) := rfl
theorem zr_34_21 : z_co 34 21 = (.invokevirtual 52, 3, 40, 0, [601, 603, 4]) := rfl
theorem zr_34_24 : z_co 34 24 = (.aload_n 0, 1, 0, 0, []) := rfl
theorem zr_34_25 : z_co 34 25 = (.iload_n 1, 1, 0, 0, []) := rfl
theorem zr_34_26 : z_co 34 26 = (.iconst 1, 1, 0, 0, []) := rfl
theorem zr_34_27 : z_co 34 27 = (.iadd, 1, 0, 0, []) := rfl
theorem zr_34_28 : z_co 34 28 = (.invokevirtual 86, 3, 32, 0, [674, 676, 9]) := rfl
theorem zr_34_31 : z_co 34 31 = (.ifCond .eq 16, 3, 0, 0, []) := rfl
theorem zr_34_34 : z_co 34 34 = (.aload_n 0, 1, 0, 0, []) := rfl
theorem zr_34_35 : z_co 34 35 = (.bipush 93, 2, 0, 0, []) := rfl
theorem zr_34_37 : z_co 34 37 = (.invokevirtual 71, 3, 39, 0, [690, 692, 13]) := rfl
theorem zr_34_40 : z_co 34 40 = (.ifCond .eq 7, 3, 0, 0, []) := rfl
theorem zr_34_43 : z_co 34 43 = (.iconst 1, 1, 0, 0, []) := rfl
theorem zr_34_44 : z_co 34 44 = (.goto 4, 3, 0, 0, []) := rfl
theorem zr_34_47 : z_co 34 47 = (.iconst 0, 1, 0, 0, []) := rfl
theorem zr_34_48 : z_co 34 48 = (.ireturn, 1, 0, 0, []) := rfl
theorem zr_34_49 : z_co 34 49 = (.aload_n 0, 1, 0, 0, []) := rfl
theorem zr_34_50 : z_co 34 50 = (.invokevirtual 126, 3, 35, 0, [694, 696, 14]) := rfl
theorem zr_34_53 : z_co 34 53 = (.istore_n 2, 1, 0, 0, []) := rfl
theorem zr_34_54 : z_co 34 54 = (.aload_n 0, 1, 0, 0, []) := rfl
theorem zr_34_55 : z_co 34 55 = (.invokevirtual 129, 3, 36, 0, [699, 701, 15]) := rfl
theorem zr_34_58 : z_co 34 58 = (.istore_n 3, 1, 0, 0, []) := rfl
theorem zr_34_59 : z_co 34 59 = (.aload_n 0, 1, 0, 0, []) := rfl
theorem zr_34_60 : z_co 34 60 = (.getfield 46, 3, 5, 4, [239]) := rfl
theorem zr_34_63 : z_co 34 63 = (.bipush 50, 2, 0, 0, []) := rfl
theorem zr_34_65 : z_co 34 65 = (.if_icmp .ge 13, 3, 0, 0, []) := rfl
theorem zr_34_68 : z_co 34 68 = (.iload_n 2, 1, 0, 0, []) := rfl
theorem zr_34_69 : z_co 34 69 = (.iconst (-1), 1, 0, 0, []) := rfl
theorem zr_34_70 : z_co 34 70 = (.if_icmp .ne 13, 3, 0, 0, []) := rfl
theorem zr_34_73 : z_co 34 73 = (.iload_n 3, 1, 0, 0, []) := rfl
theorem zr_34_74 : z_co 34 74 = (.iconst (-1), 1, 0, 0, []) := rfl
theorem zr_34_75 : z_co 34 75 = (.if_icmp .ne 8, 3, 0, 0, []) := rfl
theorem zr_34_78 : z_co 34 78 = (.aload_n 0, 1, 0, 0, []) := rfl
theorem zr_34_79 : z_co 34 79 = (.invokevirtual 75, 3, 38, 0, [670, 672, 8]) := rfl
theorem zr_34_82 : z_co 34 82 = (.ireturn, 1, 0, 0, []) := rfl
theorem zr_34_83 : z_co 34 83 = (.aload_n 0, 1, 0, 0, []) := rfl
theorem zr_34_84 : z_co 34 84 = (.dup, 1, 0, 0, []) := rfl
theorem zr_34_85 : z_co 34 85 = (.getfield 46, 3, 5, 4, [239]) := rfl
theorem zr_34_88 : z_co 34 88 = (.iconst 1, 1, 0, 0, []) := rfl
theorem zr_34_89 : z_co 34 89 = (.iadd, 1, 0, 0, []) := rfl
theorem zr_34_90 : z_co 34 90 = (.putfield 46, 3, 5, 4, [239]) := rfl
theorem zr_34_93 : z_co 34 93 = (.aload_n 0, 1, 0, 0, []) := rfl
theorem zr_34_94 : z_co 34 94 = (.iload_n 2, 1, 0, 0, []) := rfl
theorem zr_34_95 : z_co 34 95 = (.iconst (-1), 1, 0, 0, []) := rfl
theorem zr_34_96 : z_co 34 96 = (.if_icmp .ne 7, 3, 0, 0, []) := rfl
theorem zr_34_99 : z_co 34 99 = (.iconst 1, 1, 0, 0, []) := rfl
theorem zr_34_100 : z_co 34 100 = (.goto 4, 3, 0, 0, []) := rfl
theorem zr_34_103 : z_co 34 103 = (.iconst 0, 1, 0, 0, []) := rfl
theorem zr_34_104 : z_co 34 104 = (.iload_n 2, 1, 0, 0, []) := rfl
theorem zr_34_105 : z_co 34 105 = (.iconst (-1), 1, 0, 0, []) := rfl
theorem zr_34_106 : z_co 34 106 = (.if_icmp .ne 7, 3, 0, 0, []) := rfl
theorem zr_34_109 : z_co 34 109 = (.iload_n 3, 1, 0, 0, []) := rfl
theorem zr_34_110 : z_co 34 110 = (.goto 4, 3, 0, 0, []) := rfl
theorem zr_34_113 : z_co 34 113 = (.iload_n 2, 1, 0, 0, []) := rfl
theorem zr_34_114 : z_co 34 114 = (.invokevirtual 95, 3, 37, 0, [711, 713, 16]) := rfl
theorem zr_34_117 : z_co 34 117 = (.pop, 1, 0, 0, []) := rfl
theorem zr_34_118 : z_co 34 118 = (.aload_n 0, 1, 0, 0, []) := rfl
theorem zr_34_119 : z_co 34 119 = (.invokevirtual 52, 3, 40, 0, [601, 603, 4]) := rfl
theorem zr_34_122 : z_co 34 122 = (.iconst 1, 1, 0, 0, []) := rfl
theorem zr_34_123 : z_co 34 123 = (.ireturn, 1, 0, 0, []) := rfl
theorem zr_35_0 : z_co 35 0 = (.aload_n 0, 1, 0, 0, []) := rfl
theorem zr_35_1 : z_co 35 1 = (.getfield 59, 3, 5, 7, [242]) := rfl
theorem zr_35_4 : z_co 35 4 = (.aload_n 0, 1, 0, 0, []) := rfl
theorem zr_35_5 : z_co 35 5 = (.getfield 49, 3, 5, 8, [243]) := rfl
theorem zr_35_8 : z_co 35 8 = (.if_icmp .ge 7, 3, 0, 0, []) := rfl
theorem zr_35_11 : z_co 35 11 = (.iconst 0, 1, 0, 0, []) := rfl
theorem zr_35_12 : z_co 35 12 = (.goto 4, 3, 0, 0, []) := rfl
theorem zr_35_15 : z_co 35 15 = (.iconst (-1), 1, 0, 0, []) := rfl
theorem zr_35_16 : z_co 35 16 = (.istore_n 1, 1, 0, 0, []) := rfl
theorem zr_35_17 : z_co 35 17 = (.aload_n 0, 1, 0, 0, []) := rfl
theorem zr_35_18 : z_co 35 18 = (.getfield 59, 3, 5, 7, [242]) := rfl
theorem zr_35_21 : z_co 35 21 = (.istore_n 2, 1, 0, 0, []) := rfl
theorem zr_35_22 : z_co 35 22 = (.iload_n 2, 1, 0, 0, []) := rfl
theorem zr_35_23 : z_co 35 23 = (.aload_n 0, 1, 0, 0, []) := rfl
theorem zr_35_24 : z_co 35 24 = (.getfield 49, 3, 5, 8, [243]) := rfl
theorem zr_35_27 : z_co 35 27 = (.if_icmp .ge 60, 3, 0, 0, []) := rfl
theorem zr_35_30 : z_co 35 30 = (.iload_n 1, 1, 0, 0, []) := rfl
theorem zr_35_31 : z_co 35 31 = (.iconst (-1), 1, 0, 0, []) := rfl
theorem zr_35_32 : z_co 35 32 = (.if_icmp .eq 55, 3, 0, 0, []) := rfl
theorem zr_35_35 : z_co 35 35 = (.aload_n 0, 1, 0, 0, []) := rfl
theorem zr_35_36 : z_co 35 36 = (.getfield 23, 3, 5, 5, [240]) := rfl
theorem zr_35_39 : z_co 35 39 = (.iload_n 2, 1, 0, 0, []) := rfl
theorem zr_35_40 : z_co 35 40 = (.iaload, 1, 0, 0, []) := rfl
theorem zr_35_41 : z_co 35 41 = (.bipush 48, 2, 0, 0, []) := rfl
theorem zr_35_43 : z_co 35 43 = (.bipush 57, 2, 0, 0, []) := rfl
theorem zr_35_45 : z_co 35 45 = (.invokestatic 132, 3, 133, 1, [698, 497]) := rfl
theorem zr_35_48 : z_co 35 48 = (.istore_n 3, 1, 0, 0, []) := rfl
theorem zr_35_49 : z_co 35 49 = (.iload_n 3, 1, 0, 0, []) := rfl
theorem zr_35_50 : z_co 35 50 = (.ifCond .eq 20, 3, 0, 0, []) := rfl
theorem zr_35_53 : z_co 35 53 = (.iload_n 1, 1, 0, 0, []) := rfl
theorem zr_35_54 : z_co 35 54 = (.bipush 10, 2, 0, 0, []) := rfl
theorem zr_35_56 : z_co 35 56 = (.imul, 1, 0, 0, []) := rfl
theorem zr_35_57 : z_co 35 57 = (.aload_n 0, 1, 0, 0, []) := rfl
theorem zr_35_58 : z_co 35 58 = (.getfield 23, 3, 5, 5, [240]) := rfl
theorem zr_35_61 : z_co 35 61 = (.iload_n 2, 1, 0, 0, []) := rfl
theorem zr_35_62 : z_co 35 62 = (.iaload, 1, 0, 0, []) := rfl
theorem zr_35_63 : z_co 35 63 = (.iadd, 1, 0, 0, []) := rfl
theorem zr_35_64 : z_co 35 64 = (.bipush 48, 2, 0, 0, []) := rfl
theorem zr_35_66 : z_co 35 66 = (.isub, 1, 0, 0, []) := rfl
theorem zr_35_67 : z_co 35 67 = (.goto 4, 3, 0, 0, []) := rfl
theorem zr_35_70 : z_co 35 70 = (.iconst (-1), 1, 0, 0, []) := rfl
theorem zr_35_71 : z_co 35 71 = (.istore_n 1, 1, 0, 0, []) := rfl
theorem zr_35_72 : z_co 35 72 = (.iload_n 1, 1, 0, 0, []) := rfl
theorem zr_35_73 : z_co 35 73 = (.sipush 1000, 3, 0, 0, []) := rfl
theorem zr_35_76 : z_co 35 76 = (.if_icmp .le 5, 3, 0, 0, []) := rfl
theorem zr_35_79 : z_co 35 79 = (.iconst (-1), 1, 0, 0, []) := rfl
theorem zr_35_80 : z_co 35 80 = (.ireturn, 1, 0, 0, []) := rfl
theorem zr_35_81 : z_co 35 81 = (.iinc 2 1, 3, 0, 0, []) := rfl
theorem zr_35_84 : z_co 35 84 = (.goto (-62), 3, 0, 0, []) := rfl
theorem zr_35_87 : z_co 35 87 = (.iload_n 1, 1, 0, 0, []) := rfl
theorem zr_35_88 : z_co 35 88 = (.ireturn, 1, 0, 0, []) := rfl
theorem zr_36_0 : z_co 36 0 = (.aload_n 0, 1, 0, 0, []) := rfl
theorem zr_36_1 : z_co 36 1 = (.ldc 136, 2, 14, 2, []) := rfl
theorem zr_36_3 : z_co 36 3 = (.invokevirtual 80, 3, 43, 0, [617, 619, 7]) := rfl
theorem zr_36_6 : z_co 36 6 = (.ifCond .eq 5, 3, 0, 0, []) := rfl
theorem zr_36_9 : z_co 36 9 = (.iconst 0, 1, 0, 0, []) := rfl
theorem zr_36_10 : z_co 36 10 = (.ireturn, 1, 0, 0, []) := rfl
theorem zr_36_11 : z_co 36 11 = (.aload_n 0, 1, 0, 0, []) := rfl
theorem zr_36_12 : z_co 36 12 = (.ldc 140, 2, 15, 2, []) := rfl
theorem zr_36_14 : z_co 36 14 = (.invokevirtual 80, 3, 43, 0, [617, 619, 7]) := rfl
theorem zr_36_17 : z_co 36 17 = (.ifCond .eq 5, 3, 0, 0, []) := rfl
theorem zr_36_20 : z_co 36 20 = (.iconst 1, 1, 0, 0, []) := rfl
theorem zr_36_21 : z_co 36 21 = (.ireturn, 1, 0, 0, []) := rfl
theorem zr_36_22 : z_co 36 22 = (.aload_n 0, 1, 0, 0, []) := rfl
theorem zr_36_23 : z_co 36 23 = (.ldc 142, 2, 16, 2, []) := rfl
theorem zr_36_25 : z_co 36 25 = (.invokevirtual 80, 3, 43, 0, [617, 619, 7]) := rfl
theorem zr_36_28 : z_co 36 28 = (.ifCond .eq 5, 3, 0, 0, []) := rfl
theorem zr_36_31 : z_co 36 31 = (.iconst 2, 1, 0, 0, []) := rfl
theorem zr_36_32 : z_co 36 32 = (.ireturn, 1, 0, 0, []) := rfl
theorem zr_36_33 : z_co 36 33 = (.aload_n 0, 1, 0, 0, []) := rfl
theorem zr_36_34 : z_co 36 34 = (.ldc 144, 2, 17, 2, []) := rfl
theorem zr_36_36 : z_co 36 36 = (.invokevirtual 80, 3, 43, 0, [617, 619, 7]) := rfl
theorem zr_36_39 : z_co 36 39 = (.ifCond .eq 5, 3, 0, 0, []) := rfl
theorem zr_36_42 : z_co 36 42 = (.iconst 3, 1, 0, 0, []) := rfl
theorem zr_36_43 : z_co 36 43 = (.ireturn, 1, 0, 0, []) := rfl
theorem zr_36_44 : z_co 36 44 = (.aload_n 0, 1, 0, 0, []) := rfl
theorem zr_36_45 : z_co 36 45 = (.ldc 146, 2, 18, 2, []) := rfl
theorem zr_36_47 : z_co 36 47 = (.invokevirtual 80, 3, 43, 0, [617, 619, 7]) := rfl
theorem zr_36_50 : z_co 36 50 = (.ifCond .eq 5, 3, 0, 0, []) := rfl
theorem zr_36_53 : z_co 36 53 = (.iconst 4, 1, 0, 0, []) := rfl
theorem zr_36_54 : z_co 36 54 = (.ireturn, 1, 0, 0, []) := rfl
theorem zr_36_55 : z_co 36 55 = (.aload_n 0, 1, 0, 0, []) := rfl
theorem zr_36_56 : z_co 36 56 = (.ldc 148, 2, 19, 2, []) := rfl
theorem zr_36_58 : z_co 36 58 = (.invokevirtual 80, 3, 43, 0, [617, 619, 7]) := rfl
theorem zr_36_61 : z_co 36 61 = (.ifCond .eq 5, 3, 0, 0, []) := rfl
theorem zr_36_64 : z_co 36 64 = (.iconst 5, 1, 0, 0, []) := rfl
theorem zr_36_65 : z_co 36 65 = (.ireturn, 1, 0, 0, []) := rfl
theorem zr_36_66 : z_co 36 66 = (.aload_n 0, 1, 0, 0, []) := rfl
theorem zr_36_67 : z_co 36 67 = (.ldc 150, 2, 20, 2, []) := rfl
theorem zr_36_69 : z_co 36 69 = (.invokevirtual 80, 3, 43, 0, [617, 619, 7]) := rfl
theorem zr_36_72 : z_co 36 72 = (.ifCond .eq 6, 3, 0, 0, []) := rfl
theorem zr_36_75 : z_co 36 75 = (.bipush 6, 2, 0, 0, []) := rfl
theorem zr_36_77 : z_co 36 77 = (.ireturn, 1, 0, 0, []) := rfl
theorem zr_36_78 : z_co 36 78 = (.aload_n 0, 1, 0, 0, []) := rfl
theorem zr_36_79 : z_co 36 79 = (.ldc 152, 2, 21, 2, []) := rfl
theorem zr_36_81 : z_co 36 81 = (.invokevirtual 80, 3, 43, 0, [617, 619, 7]) := rfl
theorem zr_36_84 : z_co 36 84 = (.ifCond .eq 6, 3, 0, 0, []) := rfl
theorem zr_36_87 : z_co 36 87 = (.bipush 7, 2, 0, 0, []) := rfl
theorem zr_36_89 : z_co 36 89 = (.ireturn, 1, 0, 0, []) := rfl
theorem zr_36_90 : z_co 36 90 = (.aload_n 0, 1, 0, 0, []) := rfl
theorem zr_36_91 : z_co 36 91 = (.ldc 78, 2, 8, 2, []) := rfl
theorem zr_36_93 : z_co 36 93 = (.invokevirtual 80, 3, 43, 0, [617, 619, 7]) := rfl
theorem zr_36_96 : z_co 36 96 = (.ifCond .eq 8, 3, 0, 0, []) := rfl
theorem zr_36_99 : z_co 36 99 = (.bipush 8, 2, 0, 0, []) := rfl
theorem zr_36_101 : z_co 36 101 = (.goto 4, 3, 0, 0, []) := rfl
theorem zr_36_104 : z_co 36 104 = (.iconst (-1), 1, 0, 0, []) := rfl
theorem zr_36_105 : z_co 36 105 = (.ireturn, 1, 0, 0, []) := rfl
theorem zr_37_0 : z_co 37 0 = (.aload_n 0, 1, 0, 0, []) := rfl
theorem zr_37_1 : z_co 37 1 = (.getfield 43, 3, 5, 3, [238]) := rfl
theorem zr_37_4 : z_co 37 4 = (.sipush 400, 3, 0, 0, []) := rfl
theorem zr_37_7 : z_co 37 7 = (.if_icmp .lt 7, 3, 0, 0, []) := rfl
theorem zr_37_10 : z_co 37 10 = (.sipush 399, 3, 0, 0, []) := rfl
theorem zr_37_13 : z_co 37 13 = (.ireturn, 1, 0, 0, []) := rfl
theorem zr_37_14 : z_co 37 14 = (.aload_n 0, 1, 0, 0, []) := rfl
theorem zr_37_15 : z_co 37 15 = (.getfield 9, 3, 5, 0, [235]) := rfl
theorem zr_37_18 : z_co 37 18 = (.aload_n 0, 1, 0, 0, []) := rfl
theorem zr_37_19 : z_co 37 19 = (.getfield 43, 3, 5, 3, [238]) := rfl
theorem zr_37_22 : z_co 37 22 = (.iload_n 1, 1, 0, 0, []) := rfl
theorem zr_37_23 : z_co 37 23 = (.iastore, 1, 0, 0, []) := rfl
theorem zr_37_24 : z_co 37 24 = (.aload_n 0, 1, 0, 0, []) := rfl
theorem zr_37_25 : z_co 37 25 = (.getfield 15, 3, 5, 1, [236]) := rfl
theorem zr_37_28 : z_co 37 28 = (.aload_n 0, 1, 0, 0, []) := rfl
theorem zr_37_29 : z_co 37 29 = (.getfield 43, 3, 5, 3, [238]) := rfl
theorem zr_37_32 : z_co 37 32 = (.iload_n 2, 1, 0, 0, []) := rfl
theorem zr_37_33 : z_co 37 33 = (.iastore, 1, 0, 0, []) := rfl
theorem zr_37_34 : z_co 37 34 = (.aload_n 0, 1, 0, 0, []) := rfl
theorem zr_37_35 : z_co 37 35 = (.dup, 1, 0, 0, []) := rfl
theorem zr_37_36 : z_co 37 36 = (.getfield 43, 3, 5, 3, [238]) := rfl
theorem zr_37_39 : z_co 37 39 = (.iconst 1, 1, 0, 0, []) := rfl
theorem zr_37_40 : z_co 37 40 = (.iadd, 1, 0, 0, []) := rfl
theorem zr_37_41 : z_co 37 41 = (.putfield 43, 3, 5, 3, [238]) := rfl
theorem zr_37_44 : z_co 37 44 = (.aload_n 0, 1, 0, 0, []) := rfl
theorem zr_37_45 : z_co 37 45 = (.getfield 43, 3, 5, 3, [238]) := rfl
theorem zr_37_48 : z_co 37 48 = (.iconst 1, 1, 0, 0, []) := rfl
theorem zr_37_49 : z_co 37 49 = (.isub, 1, 0, 0, []) := rfl
theorem zr_37_50 : z_co 37 50 = (.ireturn, 1, 0, 0, []) := rfl
theorem zr_38_0 : z_co 38 0 = (.aload_n 0, 1, 0, 0, []) := rfl
theorem zr_38_1 : z_co 38 1 = (.aload_n 0, 1, 0, 0, []) := rfl
theorem zr_38_2 : z_co 38 2 = (.getfield 59, 3, 5, 7, [242]) := rfl
theorem zr_38_5 : z_co 38 5 = (.putfield 26, 3, 5, 9, [244]) := rfl
theorem zr_38_8 : z_co 38 8 = (.iconst 0, 1, 0, 0, []) := rfl
theorem zr_38_9 : z_co 38 9 = (.ireturn, 1, 0, 0, []) := rfl
theorem zr_39_0 : z_co 39 0 = (.aload_n 0, 1, 0, 0, []) := rfl
theorem zr_39_1 : z_co 39 1 = (.iload_n 1, 1, 0, 0, []) := rfl
theorem zr_39_2 : z_co 39 2 = (.invokevirtual 110, 3, 42, 0, [686, 688, 12]) := rfl
theorem zr_39_5 : z_co 39 5 = (.ifCond .ne 8, 3, 0, 0, []) := rfl
theorem zr_39_8 : z_co 39 8 = (.aload_n 0, 1, 0, 0, []) := rfl
theorem zr_39_9 : z_co 39 9 = (.invokevirtual 75, 3, 38, 0, [670, 672, 8]) := rfl
theorem zr_39_12 : z_co 39 12 = (.ireturn, 1, 0, 0, []) := rfl
theorem zr_39_13 : z_co 39 13 = (.aload_n 0, 1, 0, 0, []) := rfl
theorem zr_39_14 : z_co 39 14 = (.invokevirtual 52, 3, 40, 0, [601, 603, 4]) := rfl
theorem zr_39_17 : z_co 39 17 = (.iconst 1, 1, 0, 0, []) := rfl
theorem zr_39_18 : z_co 39 18 = (.ireturn, 1, 0, 0, []) := rfl
theorem zr_40_0 : z_co 40 0 = (.aload_n 0, 1, 0, 0, []) := rfl
theorem zr_40_1 : z_co 40 1 = (.aload_n 0, 1, 0, 0, []) := rfl
theorem zr_40_2 : z_co 40 2 = (.aload_n 0, 1, 0, 0, []) := rfl
theorem zr_40_3 : z_co 40 3 = (.getfield 49, 3, 5, 8, [243]) := rfl
theorem zr_40_6 : z_co 40 6 = (.bipush 32, 2, 0, 0, []) := rfl
theorem zr_40_8 : z_co 40 8 = (.bipush 32, 2, 0, 0, []) := rfl
theorem zr_40_10 : z_co 40 10 = (.invokevirtual 154, 3, 41, 0, [605, 607, 5]) := rfl
theorem zr_40_13 : z_co 40 13 = (.putfield 59, 3, 5, 7, [242]) := rfl
theorem zr_40_16 : z_co 40 16 = (.aload_n 0, 1, 0, 0, []) := rfl
theorem zr_40_17 : z_co 40 17 = (.aload_n 0, 1, 0, 0, []) := rfl
theorem zr_40_18 : z_co 40 18 = (.aload_n 0, 1, 0, 0, []) := rfl
theorem zr_40_19 : z_co 40 19 = (.getfield 59, 3, 5, 7, [242]) := rfl
theorem zr_40_22 : z_co 40 22 = (.bipush 97, 2, 0, 0, []) := rfl
theorem zr_40_24 : z_co 40 24 = (.bipush 122, 2, 0, 0, []) := rfl
theorem zr_40_26 : z_co 40 26 = (.invokevirtual 154, 3, 41, 0, [605, 607, 5]) := rfl
theorem zr_40_29 : z_co 40 29 = (.aload_n 0, 1, 0, 0, []) := rfl
theorem zr_40_30 : z_co 40 30 = (.aload_n 0, 1, 0, 0, []) := rfl
theorem zr_40_31 : z_co 40 31 = (.getfield 59, 3, 5, 7, [242]) := rfl
theorem zr_40_34 : z_co 40 34 = (.bipush 48, 2, 0, 0, []) := rfl
theorem zr_40_36 : z_co 40 36 = (.bipush 57, 2, 0, 0, []) := rfl
theorem zr_40_38 : z_co 40 38 = (.invokevirtual 154, 3, 41, 0, [605, 607, 5]) := rfl
theorem zr_40_41 : z_co 40 41 = (.invokestatic 158, 3, 260, 0, [609, 610]) := rfl
theorem zr_40_44 : z_co 40 44 = (.putfield 49, 3, 5, 8, [243]) := rfl
theorem zr_40_47 : z_co 40 47 = (.aload_n 0, 1, 0, 0, []) := rfl
theorem zr_40_48 : z_co 40 48 = (.getfield 49, 3, 5, 8, [243]) := rfl
theorem zr_40_51 : z_co 40 51 = (.aload_n 0, 1, 0, 0, []) := rfl
theorem zr_40_52 : z_co 40 52 = (.getfield 59, 3, 5, 7, [242]) := rfl
theorem zr_40_55 : z_co 40 55 = (.if_icmp .ne 24, 3, 0, 0, []) := rfl
theorem zr_40_58 : z_co 40 58 = (.aload_n 0, 1, 0, 0, []) := rfl
theorem zr_40_59 : z_co 40 59 = (.getfield 59, 3, 5, 7, [242]) := rfl
theorem zr_40_62 : z_co 40 62 = (.aload_n 0, 1, 0, 0, []) := rfl
theorem zr_40_63 : z_co 40 63 = (.getfield 42, 3, 5, 6, [241]) := rfl
theorem zr_40_66 : z_co 40 66 = (.if_icmp .ge 13, 3, 0, 0, []) := rfl
theorem zr_40_69 : z_co 40 69 = (.aload_n 0, 1, 0, 0, []) := rfl
theorem zr_40_70 : z_co 40 70 = (.aload_n 0, 1, 0, 0, []) := rfl
theorem zr_40_71 : z_co 40 71 = (.getfield 59, 3, 5, 7, [242]) := rfl
theorem zr_40_74 : z_co 40 74 = (.iconst 1, 1, 0, 0, []) := rfl
theorem zr_40_75 : z_co 40 75 = (.iadd, 1, 0, 0, []) := rfl
theorem zr_40_76 : z_co 40 76 = (.putfield 49, 3, 5, 8, [243]) := rfl
theorem zr_40_79 : z_co 40 79 = (.return_, 1, 0, 0, []) := rfl
theorem zr_41_0 : z_co 41 0 = (.iload_n 1, 1, 0, 0, []) := rfl
theorem zr_41_1 : z_co 41 1 = (.istore 4, 2, 0, 0, []) := rfl
theorem zr_41_3 : z_co 41 3 = (.iload 4, 2, 0, 0, []) := rfl
theorem zr_41_5 : z_co 41 5 = (.aload_n 0, 1, 0, 0, []) := rfl
theorem zr_41_6 : z_co 41 6 = (.getfield 42, 3, 5, 6, [241]) := rfl
theorem zr_41_9 : z_co 41 9 = (.if_icmp .ge 31, 3, 0, 0, []) := rfl
theorem zr_41_12 : z_co 41 12 = (.aload_n 0, 1, 0, 0, []) := rfl
theorem zr_41_13 : z_co 41 13 = (.getfield 23, 3, 5, 5, [240]) := rfl
theorem zr_41_16 : z_co 41 16 = (.iload 4, 2, 0, 0, []) := rfl
theorem zr_41_18 : z_co 41 18 = (.iaload, 1, 0, 0, []) := rfl
theorem zr_41_19 : z_co 41 19 = (.iload_n 2, 1, 0, 0, []) := rfl
theorem zr_41_20 : z_co 41 20 = (.if_icmp .lt 20, 3, 0, 0, []) := rfl
theorem zr_41_23 : z_co 41 23 = (.aload_n 0, 1, 0, 0, []) := rfl
theorem zr_41_24 : z_co 41 24 = (.getfield 23, 3, 5, 5, [240]) := rfl
theorem zr_41_27 : z_co 41 27 = (.iload 4, 2, 0, 0, []) := rfl
theorem zr_41_29 : z_co 41 29 = (.iaload, 1, 0, 0, []) := rfl
theorem zr_41_30 : z_co 41 30 = (.iload_n 3, 1, 0, 0, []) := rfl
theorem zr_41_31 : z_co 41 31 = (.if_icmp .gt 9, 3, 0, 0, []) := rfl
theorem zr_41_34 : z_co 41 34 = (.iinc 4 1, 3, 0, 0, []) := rfl
theorem zr_41_37 : z_co 41 37 = (.goto (-34), 3, 0, 0, []) := rfl
theorem zr_41_40 : z_co 41 40 = (.iload 4, 2, 0, 0, []) := rfl
theorem zr_41_42 : z_co 41 42 = (.ireturn, 1, 0, 0, []) := rfl
theorem zr_42_0 : z_co 42 0 = (.aload_n 0, 1, 0, 0, []) := rfl
theorem zr_42_1 : z_co 42 1 = (.getfield 59, 3, 5, 7, [242]) := rfl
theorem zr_42_4 : z_co 42 4 = (.aload_n 0, 1, 0, 0, []) := rfl
theorem zr_42_5 : z_co 42 5 = (.getfield 42, 3, 5, 6, [241]) := rfl
theorem zr_42_8 : z_co 42 8 = (.if_icmp .ge 20, 3, 0, 0, []) := rfl
theorem zr_42_11 : z_co 42 11 = (.aload_n 0, 1, 0, 0, []) := rfl
theorem zr_42_12 : z_co 42 12 = (.getfield 23, 3, 5, 5, [240]) := rfl
theorem zr_42_15 : z_co 42 15 = (.aload_n 0, 1, 0, 0, []) := rfl
theorem zr_42_16 : z_co 42 16 = (.getfield 59, 3, 5, 7, [242]) := rfl
theorem zr_42_19 : z_co 42 19 = (.iaload, 1, 0, 0, []) := rfl
theorem zr_42_20 : z_co 42 20 = (.iload_n 1, 1, 0, 0, []) := rfl
theorem zr_42_21 : z_co 42 21 = (.if_icmp .ne 7, 3, 0, 0, []) := rfl
theorem zr_42_24 : z_co 42 24 = (.iconst 1, 1, 0, 0, []) := rfl
theorem zr_42_25 : z_co 42 25 = (.goto 4, 3, 0, 0, []) := rfl
theorem zr_42_28 : z_co 42 28 = (.iconst 0, 1, 0, 0, []) := rfl
theorem zr_42_29 : z_co 42 29 = (.ireturn, 1, 0, 0, []) := rfl
theorem zr_43_0 : z_co 43 0 = (.aload_n 0, 1, 0, 0, []) := rfl
theorem zr_43_1 : z_co 43 1 = (.getfield 49, 3, 5, 8, [243]) := rfl
theorem zr_43_4 : z_co 43 4 = (.aload_n 0, 1, 0, 0, []) := rfl
theorem zr_43_5 : z_co 43 5 = (.getfield 59, 3, 5, 7, [242]) := rfl
theorem zr_43_8 : z_co 43 8 = (.isub, 1, 0, 0, []) := rfl
theorem zr_43_9 : z_co 43 9 = (.aload_n 1, 1, 0, 0, []) := rfl
theorem zr_43_10 : z_co 43 10 = (.invokevirtual 161, 3, 249, 0, [621, 622, 623]) := rfl
theorem zr_43_13 : z_co 43 13 = (.if_icmp .eq 5, 3, 0, 0, []) := rfl
theorem zr_43_16 : z_co 43 16 = (.iconst 0, 1, 0, 0, []) := rfl
theorem zr_43_17 : z_co 43 17 = (.ireturn, 1, 0, 0, []) := rfl
theorem zr_43_18 : z_co 43 18 = (.aload_n 0, 1, 0, 0, []) := rfl
theorem zr_43_19 : z_co 43 19 = (.getfield 59, 3, 5, 7, [242]) := rfl
theorem zr_43_22 : z_co 43 22 = (.istore_n 2, 1, 0, 0, []) := rfl
theorem zr_43_23 : z_co 43 23 = (.iload_n 2, 1, 0, 0, []) := rfl
theorem zr_43_24 : z_co 43 24 = (.aload_n 0, 1, 0, 0, []) := rfl
theorem zr_43_25 : z_co 43 25 = (.getfield 49, 3, 5, 8, [243]) := rfl
theorem zr_43_28 : z_co 43 28 = (.if_icmp .ge 30, 3, 0, 0, []) := rfl
theorem zr_43_31 : z_co 43 31 = (.aload_n 0, 1, 0, 0, []) := rfl
theorem zr_43_32 : z_co 43 32 = (.getfield 23, 3, 5, 5, [240]) := rfl
theorem zr_43_35 : z_co 43 35 = (.iload_n 2, 1, 0, 0, []) := rfl
theorem zr_43_36 : z_co 43 36 = (.iaload, 1, 0, 0, []) := rfl
theorem zr_43_37 : z_co 43 37 = (.aload_n 1, 1, 0, 0, []) := rfl
theorem zr_43_38 : z_co 43 38 = (.iload_n 2, 1, 0, 0, []) := rfl
theorem zr_43_39 : z_co 43 39 = (.aload_n 0, 1, 0, 0, []) := rfl
theorem zr_43_40 : z_co 43 40 = (.getfield 59, 3, 5, 7, [242]) := rfl
theorem zr_43_43 : z_co 43 43 = (.isub, 1, 0, 0, []) := rfl
theorem zr_43_44 : z_co 43 44 = (.invokevirtual 165, 3, 250, 0, [631, 632, 633]) := rfl
theorem zr_43_47 : z_co 43 47 = (.if_icmp .eq 5, 3, 0, 0, []) := rfl
theorem zr_43_50 : z_co 43 50 = (.iconst 0, 1, 0, 0, []) := rfl
theorem zr_43_51 : z_co 43 51 = (.ireturn, 1, 0, 0, []) := rfl
theorem zr_43_52 : z_co 43 52 = (.iinc 2 1, 3, 0, 0, []) := rfl
theorem zr_43_55 : z_co 43 55 = (.goto (-32), 3, 0, 0, []) := rfl
theorem zr_43_58 : z_co 43 58 = (.iconst 1, 1, 0, 0, []) := rfl
theorem zr_43_59 : z_co 43 59 = (.ireturn, 1, 0, 0, []) := rfl
theorem zr_44_0 : z_co 44 0 = (.aload_n 0, 1, 0, 0, []) := rfl
theorem zr_44_1 : z_co 44 1 = (.invokespecial 3, 3, 1000, 0, [364, 131, 132]) := rfl
theorem zr_44_4 : z_co 44 4 = (.aload_n 0, 1, 0, 0, []) := rfl
theorem zr_44_5 : z_co 44 5 = (.new 9, 3, 8, 0, [365, 366, 112]) := rfl
theorem zr_44_8 : z_co 44 8 = (.dup, 1, 0, 0, []) := rfl
theorem zr_44_9 : z_co 44 9 = (.invokespecial 11, 3, 65, 1, [367, 368]) := rfl
theorem zr_44_12 : z_co 44 12 = (.putfield 12, 3, 6, 0, [390]) := rfl
theorem zr_44_15 : z_co 44 15 = (.aload_n 0, 1, 0, 0, []) := rfl
theorem zr_44_16 : z_co 44 16 = (.bipush 7, 2, 0, 0, []) := rfl
theorem zr_44_18 : z_co 44 18 = (.newarray .int, 2, 0, 0, []) := rfl
theorem zr_44_20 : z_co 44 20 = (.putfield 18, 3, 6, 1, [392]) := rfl
theorem zr_44_23 : z_co 44 23 = (.return_, 1, 0, 0, []) := rfl
theorem zr_45_0 : z_co 45 0 = (.aload_n 0, 1, 0, 0, []) := rfl
theorem zr_45_1 : z_co 45 1 = (.getfield 12, 3, 6, 0, [390]) := rfl
theorem zr_45_4 : z_co 45 4 = (.invokevirtual 22, 3, 66, 0, [991, 992, 993]) := rfl
theorem zr_45_7 : z_co 45 7 = (.aload_n 0, 1, 0, 0, []) := rfl
theorem zr_45_8 : z_co 45 8 = (.aload_n 1, 1, 0, 0, []) := rfl
theorem zr_45_9 : z_co 45 9 = (.aload_n 2, 1, 0, 0, []) := rfl
theorem zr_45_10 : z_co 45 10 = (.iconst 0, 1, 0, 0, []) := rfl
theorem zr_45_11 : z_co 45 11 = (.iconst 0, 1, 0, 0, []) := rfl
theorem zr_45_12 : z_co 45 12 = (.iconst 0, 1, 0, 0, []) := rfl
theorem zr_45_13 : z_co 45 13 = (.invokevirtual 25, 3, 46, 0, [995, 997, 36]) := rfl
theorem zr_45_16 : z_co 45 16 = (.return_, 1, 0, 0, []) := rfl
theorem zr_46_0 : z_co 46 0 = (.aload_n 1, 1, 0, 0, []) := rfl
theorem zr_46_1 : z_co 46 1 = (.getfield 29, 3, 10, 11, [177]) := rfl
theorem zr_46_4 : z_co 46 4 = (.iload_n 3, 1, 0, 0, []) := rfl
theorem zr_46_5 : z_co 46 5 = (.isub, 1, 0, 0, []) := rfl
theorem zr_46_6 : z_co 46 6 = (.istore 6, 2, 0, 0, []) := rfl
theorem zr_46_8 : z_co 46 8 = (.aload_n 0, 1, 0, 0, []) := rfl
theorem zr_46_9 : z_co 46 9 = (.getfield 12, 3, 6, 0, [390]) := rfl
theorem zr_46_12 : z_co 46 12 = (.iload 5, 2, 0, 0, []) := rfl
theorem zr_46_14 : z_co 46 14 = (.iload 6, 2, 0, 0, []) := rfl
theorem zr_46_16 : z_co 46 16 = (.iadd, 1, 0, 0, []) := rfl
theorem zr_46_17 : z_co 46 17 = (.invokevirtual 35, 3, 67, 0, [999, 1000, 1001]) := rfl
theorem zr_46_20 : z_co 46 20 = (.ifCond .ne 4, 3, 0, 0, []) := rfl
theorem zr_46_23 : z_co 46 23 = (.return_, 1, 0, 0, []) := rfl
theorem zr_46_24 : z_co 46 24 = (.iload 6, 2, 0, 0, []) := rfl
theorem zr_46_26 : z_co 46 26 = (.ifCond .le 9, 3, 0, 0, []) := rfl
theorem zr_46_29 : z_co 46 29 = (.iload_n 3, 1, 0, 0, []) := rfl
theorem zr_46_30 : z_co 46 30 = (.bipush 7, 2, 0, 0, []) := rfl
theorem zr_46_32 : z_co 46 32 = (.if_icmp .lt 24, 3, 0, 0, []) := rfl
theorem zr_46_35 : z_co 46 35 = (.aload_n 0, 1, 0, 0, []) := rfl
theorem zr_46_36 : z_co 46 36 = (.getfield 12, 3, 6, 0, [390]) := rfl
theorem zr_46_39 : z_co 46 39 = (.iload 5, 2, 0, 0, []) := rfl
theorem zr_46_41 : z_co 46 41 = (.aload_n 2, 1, 0, 0, []) := rfl
theorem zr_46_42 : z_co 46 42 = (.invokevirtual 39, 3, 62, 0, [1003, 975, 976]) := rfl
theorem zr_46_45 : z_co 46 45 = (.invokestatic 45, 3, 256, 0, [1004, 915]) := rfl
theorem zr_46_48 : z_co 46 48 = (.aload_n 0, 1, 0, 0, []) := rfl
theorem zr_46_49 : z_co 46 49 = (.getfield 18, 3, 6, 1, [392]) := rfl
theorem zr_46_52 : z_co 46 52 = (.invokevirtual 51, 3, 68, 0, [1005, 1006, 1007]) := rfl
theorem zr_46_55 : z_co 46 55 = (.return_, 1, 0, 0, []) := rfl
theorem zr_46_56 : z_co 46 56 = (.iconst 0, 1, 0, 0, []) := rfl
theorem zr_46_57 : z_co 46 57 = (.istore 7, 2, 0, 0, []) := rfl
theorem zr_46_59 : z_co 46 59 = (.iload 7, 2, 0, 0, []) := rfl
theorem zr_46_61 : z_co 46 61 = (.aload_n 1, 1, 0, 0, []) := rfl
theorem zr_46_62 : z_co 46 62 = (.getfield 29, 3, 10, 11, [177]) := rfl
theorem zr_46_65 : z_co 46 65 = (.if_icmp .ge 114, 3, 0, 0, []) := rfl
theorem zr_46_68 : z_co 46 68 = (.iload 4, 2, 0, 0, []) := rfl
theorem zr_46_70 : z_co 46 70 = (.iload 7, 2, 0, 0, []) := rfl
theorem zr_46_72 : z_co 46 72 = (.ishr, 1, 0, 0, []) := rfl
theorem zr_46_73 : z_co 46 73 = (.iconst 1, 1, 0, 0, []) := rfl
theorem zr_46_74 : z_co 46 74 = (.iand, 1, 0, 0, []) := rfl
theorem zr_46_75 : z_co 46 75 = (.ifCond .ne 98, 3, 0, 0, []) := rfl
theorem zr_46_78 : z_co 46 78 = (.aload_n 1, 1, 0, 0, []) := rfl
theorem zr_46_79 : z_co 46 79 = (.getfield 55, 3, 10, 4, [158]) := rfl
theorem zr_46_82 : z_co 46 82 = (.iconst 0, 1, 0, 0, []) := rfl
theorem zr_46_83 : z_co 46 83 = (.aaload, 1, 0, 0, []) := rfl
theorem zr_46_84 : z_co 46 84 = (.iload 7, 2, 0, 0, []) := rfl
theorem zr_46_86 : z_co 46 86 = (.iaload, 1, 0, 0, []) := rfl
theorem zr_46_87 : z_co 46 87 = (.istore 8, 2, 0, 0, []) := rfl
theorem zr_46_89 : z_co 46 89 = (.aload_n 2, 1, 0, 0, []) := rfl
theorem zr_46_90 : z_co 46 90 = (.getfield 59, 3, 7, 5, [309]) := rfl
theorem zr_46_93 : z_co 46 93 = (.iload 8, 2, 0, 0, []) := rfl
theorem zr_46_95 : z_co 46 95 = (.iaload, 1, 0, 0, []) := rfl
theorem zr_46_96 : z_co 46 96 = (.istore 9, 2, 0, 0, []) := rfl
theorem zr_46_98 : z_co 46 98 = (.aload_n 2, 1, 0, 0, []) := rfl
theorem zr_46_99 : z_co 46 99 = (.getfield 62, 3, 7, 7, [315]) := rfl
theorem zr_46_102 : z_co 46 102 = (.istore 10, 2, 0, 0, []) := rfl
theorem zr_46_104 : z_co 46 104 = (.aload_n 0, 1, 0, 0, []) := rfl
theorem zr_46_105 : z_co 46 105 = (.getfield 18, 3, 6, 1, [392]) := rfl
theorem zr_46_108 : z_co 46 108 = (.iload_n 3, 1, 0, 0, []) := rfl
theorem zr_46_109 : z_co 46 109 = (.iload 7, 2, 0, 0, []) := rfl
theorem zr_46_111 : z_co 46 111 = (.iastore, 1, 0, 0, []) := rfl
theorem zr_46_112 : z_co 46 112 = (.aload_n 2, 1, 0, 0, []) := rfl
theorem zr_46_113 : z_co 46 113 = (.iload 8, 2, 0, 0, []) := rfl
theorem zr_46_115 : z_co 46 115 = (.aload_n 1, 1, 0, 0, []) := rfl
theorem zr_46_116 : z_co 46 116 = (.getfield 55, 3, 10, 4, [158]) := rfl
theorem zr_46_119 : z_co 46 119 = (.iconst 1, 1, 0, 0, []) := rfl
theorem zr_46_120 : z_co 46 120 = (.aaload, 1, 0, 0, []) := rfl
theorem zr_46_121 : z_co 46 121 = (.iload 7, 2, 0, 0, []) := rfl
theorem zr_46_123 : z_co 46 123 = (.iaload, 1, 0, 0, []) := rfl
theorem zr_46_124 : z_co 46 124 = (.invokevirtual 65, 3, 59, 0, [1011, 967, 968]) := rfl
theorem zr_46_127 : z_co 46 127 = (.ifCond .eq 7, 3, 0, 0, []) := rfl
theorem zr_46_130 : z_co 46 130 = (.iconst 1, 1, 0, 0, []) := rfl
theorem zr_46_131 : z_co 46 131 = (.goto 4, 3, 0, 0, []) := rfl
theorem zr_46_134 : z_co 46 134 = (.iconst 0, 1, 0, 0, []) := rfl
theorem zr_46_135 : z_co 46 135 = (.istore 11, 2, 0, 0, []) := rfl
theorem zr_46_137 : z_co 46 137 = (.aload_n 0, 1, 0, 0, []) := rfl
theorem zr_46_138 : z_co 46 138 = (.aload_n 1, 1, 0, 0, []) := rfl
theorem zr_46_139 : z_co 46 139 = (.aload_n 2, 1, 0, 0, []) := rfl
theorem zr_46_140 : z_co 46 140 = (.iload_n 3, 1, 0, 0, []) := rfl
theorem zr_46_141 : z_co 46 141 = (.iconst 1, 1, 0, 0, []) := rfl
theorem zr_46_142 : z_co 46 142 = (.iadd, 1, 0, 0, []) := rfl
theorem zr_46_143 : z_co 46 143 = (.iload 4, 2, 0, 0, []) := rfl
theorem zr_46_145 : z_co 46 145 = (.iconst 1, 1, 0, 0, []) := rfl
theorem zr_46_146 : z_co 46 146 = (.iload 7, 2, 0, 0, []) := rfl
theorem zr_46_148 : z_co 46 148 = (.ishl, 1, 0, 0, []) := rfl
theorem zr_46_149 : z_co 46 149 = (.ior, 1, 0, 0, []) := rfl
theorem zr_46_150 : z_co 46 150 = (.iload 5, 2, 0, 0, []) := rfl
theorem zr_46_152 : z_co 46 152 = (.iload 11, 2, 0, 0, []) := rfl
theorem zr_46_154 : z_co 46 154 = (.iadd, 1, 0, 0, []) := rfl
theorem zr_46_155 : z_co 46 155 = (.invokevirtual 25, 3, 46, 0, [995, 997, 36]) := rfl
theorem zr_46_158 : z_co 46 158 = (.aload_n 2, 1, 0, 0, []) := rfl
theorem zr_46_159 : z_co 46 159 = (.getfield 59, 3, 7, 5, [309]) := rfl
theorem zr_46_162 : z_co 46 162 = (.iload 8, 2, 0, 0, []) := rfl
theorem zr_46_164 : z_co 46 164 = (.iload 9, 2, 0, 0, []) := rfl
theorem zr_46_166 : z_co 46 166 = (.iastore, 1, 0, 0, []) := rfl
theorem zr_46_167 : z_co 46 167 = (.aload_n 2, 1, 0, 0, []) := rfl
theorem zr_46_168 : z_co 46 168 = (.iload 10, 2, 0, 0, []) := rfl
theorem zr_46_170 : z_co 46 170 = (.putfield 62, 3, 7, 7, [315]) := rfl
theorem zr_46_173 : z_co 46 173 = (.iinc 7 1, 3, 0, 0, []) := rfl
theorem zr_46_176 : z_co 46 176 = (.goto (-117), 3, 0, 0, []) := rfl
theorem zr_46_179 : z_co 46 179 = (.return_, 1, 0, 0, []) := rfl
theorem zr_47_0 : z_co 47 0 = (.aload_n 0, 1, 0, 0, []) := rfl
theorem zr_47_1 : z_co 47 1 = (.invokespecial 3, 3, 1000, 0, [301, 131, 132]) := rfl
theorem zr_47_4 : z_co 47 4 = (.aload_n 0, 1, 0, 0, []) := rfl
theorem zr_47_5 : z_co 47 5 = (.bipush 13, 2, 0, 0, []) := rfl
theorem zr_47_7 : z_co 47 7 = (.newarray .int, 2, 0, 0, []) := rfl
theorem zr_47_9 : z_co 47 9 = (.putfield 9, 3, 7, 0, [303]) := rfl
theorem zr_47_12 : z_co 47 12 = (.aload_n 0, 1, 0, 0, []) := rfl
theorem zr_47_13 : z_co 47 13 = (.bipush 6, 2, 0, 0, []) := rfl
theorem zr_47_15 : z_co 47 15 = (.newarray .int, 2, 0, 0, []) := rfl
theorem zr_47_17 : z_co 47 17 = (.putfield 15, 3, 7, 1, [304]) := rfl
theorem zr_47_20 : z_co 47 20 = (.aload_n 0, 1, 0, 0, []) := rfl
theorem zr_47_21 : z_co 47 21 = (.bipush 6, 2, 0, 0, []) := rfl
theorem zr_47_23 : z_co 47 23 = (.bipush 13, 2, 0, 0, []) := rfl
theorem zr_47_25 : z_co 47 25 = (.multianewarray 18 2, 4, 0, 0, [302, 140]) := rfl
theorem zr_47_29 : z_co 47 29 = (.putfield 20, 3, 7, 2, [305]) := rfl
theorem zr_47_32 : z_co 47 32 = (.aload_n 0, 1, 0, 0, []) := rfl
theorem zr_47_33 : z_co 47 33 = (.bipush 6, 2, 0, 0, []) := rfl
theorem zr_47_35 : z_co 47 35 = (.bipush 13, 2, 0, 0, []) := rfl
theorem zr_47_37 : z_co 47 37 = (.multianewarray 18 2, 4, 0, 0, [302, 140]) := rfl
theorem zr_47_41 : z_co 47 41 = (.putfield 23, 3, 7, 3, [306]) := rfl
theorem zr_47_44 : z_co 47 44 = (.aload_n 0, 1, 0, 0, []) := rfl
theorem zr_47_45 : z_co 47 45 = (.bipush 13, 2, 0, 0, []) := rfl
theorem zr_47_47 : z_co 47 47 = (.newarray .int, 2, 0, 0, []) := rfl
theorem zr_47_49 : z_co 47 49 = (.putfield 26, 3, 7, 4, [307]) := rfl
theorem zr_47_52 : z_co 47 52 = (.aload_n 0, 1, 0, 0, []) := rfl
theorem zr_47_53 : z_co 47 53 = (.bipush 6, 2, 0, 0, []) := rfl
theorem zr_47_55 : z_co 47 55 = (.newarray .int, 2, 0, 0, []) := rfl
theorem zr_47_57 : z_co 47 57 = (.putfield 29, 3, 7, 5, [308]) := rfl
theorem zr_47_60 : z_co 47 60 = (.aload_n 0, 1, 0, 0, []) := rfl
theorem zr_47_61 : z_co 47 61 = (.bipush 12, 2, 0, 0, []) := rfl
theorem zr_47_63 : z_co 47 63 = (.newarray .int, 2, 0, 0, []) := rfl
theorem zr_47_65 : z_co 47 65 = (.putfield 32, 3, 7, 6, [311]) := rfl
theorem zr_47_68 : z_co 47 68 = (.return_, 1, 0, 0, []) := rfl
theorem zr_48_0 : z_co 48 0 = (.aload_n 0, 1, 0, 0, []) := rfl
theorem zr_48_1 : z_co 48 1 = (.aload_n 1, 1, 0, 0, []) := rfl
theorem zr_48_2 : z_co 48 2 = (.getfield 35, 3, 10, 7, [162]) := rfl
theorem zr_48_5 : z_co 48 5 = (.aload_n 2, 1, 0, 0, []) := rfl
theorem zr_48_6 : z_co 48 6 = (.arraylength, 1, 0, 0, []) := rfl
theorem zr_48_7 : z_co 48 7 = (.invokestatic 41, 3, 261, 0, [840, 599]) := rfl
theorem zr_48_10 : z_co 48 10 = (.putfield 47, 3, 7, 8, [316]) := rfl
theorem zr_48_13 : z_co 48 13 = (.aload_n 0, 1, 0, 0, []) := rfl
theorem zr_48_14 : z_co 48 14 = (.aload_n 1, 1, 0, 0, []) := rfl
theorem zr_48_15 : z_co 48 15 = (.getfield 48, 3, 10, 8, [167]) := rfl
theorem zr_48_18 : z_co 48 18 = (.putfield 51, 3, 7, 9, [318]) := rfl
theorem zr_48_21 : z_co 48 21 = (.aload_n 0, 1, 0, 0, []) := rfl
theorem zr_48_22 : z_co 48 22 = (.iconst 1, 1, 0, 0, []) := rfl
theorem zr_48_23 : z_co 48 23 = (.putfield 54, 3, 7, 7, [314]) := rfl
theorem zr_48_26 : z_co 48 26 = (.aload_n 0, 1, 0, 0, []) := rfl
theorem zr_48_27 : z_co 48 27 = (.getfield 9, 3, 7, 0, [303]) := rfl
theorem zr_48_30 : z_co 48 30 = (.iconst 0, 1, 0, 0, []) := rfl
theorem zr_48_31 : z_co 48 31 = (.iconst 0, 1, 0, 0, []) := rfl
theorem zr_48_32 : z_co 48 32 = (.iastore, 1, 0, 0, []) := rfl
theorem zr_48_33 : z_co 48 33 = (.iconst 0, 1, 0, 0, []) := rfl
theorem zr_48_34 : z_co 48 34 = (.istore_n 3, 1, 0, 0, []) := rfl
theorem zr_48_35 : z_co 48 35 = (.iload_n 3, 1, 0, 0, []) := rfl
theorem zr_48_36 : z_co 48 36 = (.aload_n 0, 1, 0, 0, []) := rfl
theorem zr_48_37 : z_co 48 37 = (.getfield 47, 3, 7, 8, [316]) := rfl
theorem zr_48_40 : z_co 48 40 = (.if_icmp .ge 75, 3, 0, 0, []) := rfl
theorem zr_48_43 : z_co 48 43 = (.aload_n 2, 1, 0, 0, []) := rfl
theorem zr_48_44 : z_co 48 44 = (.iload_n 3, 1, 0, 0, []) := rfl
theorem zr_48_45 : z_co 48 45 = (.iaload, 1, 0, 0, []) := rfl
theorem zr_48_46 : z_co 48 46 = (.istore 4, 2, 0, 0, []) := rfl
theorem zr_48_48 : z_co 48 48 = (.aload_n 1, 1, 0, 0, []) := rfl
theorem zr_48_49 : z_co 48 49 = (.iload 4, 2, 0, 0, []) := rfl
theorem zr_48_51 : z_co 48 51 = (.invokevirtual 57, 3, 75, 0, [841, 524, 525]) := rfl
theorem zr_48_54 : z_co 48 54 = (.ifCond .eq 55, 3, 0, 0, []) := rfl
theorem zr_48_57 : z_co 48 57 = (.aload_n 0, 1, 0, 0, []) := rfl
theorem zr_48_58 : z_co 48 58 = (.getfield 9, 3, 7, 0, [303]) := rfl
theorem zr_48_61 : z_co 48 61 = (.iload_n 3, 1, 0, 0, []) := rfl
theorem zr_48_62 : z_co 48 62 = (.iconst 1, 1, 0, 0, []) := rfl
theorem zr_48_63 : z_co 48 63 = (.iadd, 1, 0, 0, []) := rfl
theorem zr_48_64 : z_co 48 64 = (.aload_n 0, 1, 0, 0, []) := rfl
theorem zr_48_65 : z_co 48 65 = (.getfield 9, 3, 7, 0, [303]) := rfl
theorem zr_48_68 : z_co 48 68 = (.iload_n 3, 1, 0, 0, []) := rfl
theorem zr_48_69 : z_co 48 69 = (.iaload, 1, 0, 0, []) := rfl
theorem zr_48_70 : z_co 48 70 = (.aload_n 1, 1, 0, 0, []) := rfl
theorem zr_48_71 : z_co 48 71 = (.getfield 61, 3, 10, 0, [145]) := rfl
theorem zr_48_74 : z_co 48 74 = (.iconst 0, 1, 0, 0, []) := rfl
theorem zr_48_75 : z_co 48 75 = (.aaload, 1, 0, 0, []) := rfl
theorem zr_48_76 : z_co 48 76 = (.iload 4, 2, 0, 0, []) := rfl
theorem zr_48_78 : z_co 48 78 = (.iaload, 1, 0, 0, []) := rfl
theorem zr_48_79 : z_co 48 79 = (.iadd, 1, 0, 0, []) := rfl
theorem zr_48_80 : z_co 48 80 = (.iastore, 1, 0, 0, []) := rfl
theorem zr_48_81 : z_co 48 81 = (.aload_n 0, 1, 0, 0, []) := rfl
theorem zr_48_82 : z_co 48 82 = (.dup, 1, 0, 0, []) := rfl
theorem zr_48_83 : z_co 48 83 = (.getfield 54, 3, 7, 7, [314]) := rfl
theorem zr_48_86 : z_co 48 86 = (.aload_n 1, 1, 0, 0, []) := rfl
theorem zr_48_87 : z_co 48 87 = (.getfield 61, 3, 10, 0, [145]) := rfl
theorem zr_48_90 : z_co 48 90 = (.iconst 3, 1, 0, 0, []) := rfl
theorem zr_48_91 : z_co 48 91 = (.aaload, 1, 0, 0, []) := rfl
theorem zr_48_92 : z_co 48 92 = (.iload 4, 2, 0, 0, []) := rfl
theorem zr_48_94 : z_co 48 94 = (.iaload, 1, 0, 0, []) := rfl
theorem zr_48_95 : z_co 48 95 = (.ifCond .ne 9, 3, 0, 0, []) := rfl
theorem zr_48_98 : z_co 48 98 = (.iconst 2, 1, 0, 0, []) := rfl
theorem zr_48_99 : z_co 48 99 = (.iload_n 3, 1, 0, 0, []) := rfl
theorem zr_48_100 : z_co 48 100 = (.ishl, 1, 0, 0, []) := rfl
theorem zr_48_101 : z_co 48 101 = (.goto 4, 3, 0, 0, []) := rfl
theorem zr_48_104 : z_co 48 104 = (.iconst 0, 1, 0, 0, []) := rfl
theorem zr_48_105 : z_co 48 105 = (.ior, 1, 0, 0, []) := rfl
theorem zr_48_106 : z_co 48 106 = (.putfield 54, 3, 7, 7, [314]) := rfl
theorem zr_48_109 : z_co 48 109 = (.iinc 3 1, 3, 0, 0, []) := rfl
theorem zr_48_112 : z_co 48 112 = (.goto (-77), 3, 0, 0, []) := rfl
theorem zr_48_115 : z_co 48 115 = (.aload_n 0, 1, 0, 0, []) := rfl
theorem zr_48_116 : z_co 48 116 = (.getfield 29, 3, 7, 5, [308]) := rfl
theorem zr_48_119 : z_co 48 119 = (.iconst 0, 1, 0, 0, []) := rfl
theorem zr_48_120 : z_co 48 120 = (.invokestatic 64, 3, 257, 0, [842, 843]) := rfl
theorem zr_48_123 : z_co 48 123 = (.return_, 1, 0, 0, []) := rfl
theorem zr_49_0 : z_co 49 0 = (.iconst 0, 1, 0, 0, []) := rfl
theorem zr_49_1 : z_co 49 1 = (.istore 4, 2, 0, 0, []) := rfl
theorem zr_49_3 : z_co 49 3 = (.iconst 0, 1, 0, 0, []) := rfl
theorem zr_49_4 : z_co 49 4 = (.istore 5, 2, 0, 0, []) := rfl
theorem zr_49_6 : z_co 49 6 = (.iload 5, 2, 0, 0, []) := rfl
theorem zr_49_8 : z_co 49 8 = (.aload_n 0, 1, 0, 0, []) := rfl
theorem zr_49_9 : z_co 49 9 = (.getfield 47, 3, 7, 8, [316]) := rfl
theorem zr_49_12 : z_co 49 12 = (.if_icmp .ge 40, 3, 0, 0, []) := rfl
theorem zr_49_15 : z_co 49 15 = (.aload_n 2, 1, 0, 0, []) := rfl
theorem zr_49_16 : z_co 49 16 = (.aload_n 1, 1, 0, 0, []) := rfl
theorem zr_49_17 : z_co 49 17 = (.iload_n 3, 1, 0, 0, []) := rfl
theorem zr_49_18 : z_co 49 18 = (.iload 5, 2, 0, 0, []) := rfl
theorem zr_49_20 : z_co 49 20 = (.iload 5, 2, 0, 0, []) := rfl
theorem zr_49_22 : z_co 49 22 = (.aload_n 0, 1, 0, 0, []) := rfl
theorem zr_49_23 : z_co 49 23 = (.getfield 9, 3, 7, 0, [303]) := rfl
theorem zr_49_26 : z_co 49 26 = (.iload 5, 2, 0, 0, []) := rfl
theorem zr_49_28 : z_co 49 28 = (.iconst 1, 1, 0, 0, []) := rfl
theorem zr_49_29 : z_co 49 29 = (.iadd, 1, 0, 0, []) := rfl
theorem zr_49_30 : z_co 49 30 = (.iaload, 1, 0, 0, []) := rfl
theorem zr_49_31 : z_co 49 31 = (.invokevirtual 70, 3, 16, 0, [849, 790, 791]) := rfl
theorem zr_49_34 : z_co 49 34 = (.ifCond .eq 12, 3, 0, 0, []) := rfl
theorem zr_49_37 : z_co 49 37 = (.iload 4, 2, 0, 0, []) := rfl
theorem zr_49_39 : z_co 49 39 = (.iconst 1, 1, 0, 0, []) := rfl
theorem zr_49_40 : z_co 49 40 = (.iload 5, 2, 0, 0, []) := rfl
theorem zr_49_42 : z_co 49 42 = (.ishl, 1, 0, 0, []) := rfl
theorem zr_49_43 : z_co 49 43 = (.ior, 1, 0, 0, []) := rfl
theorem zr_49_44 : z_co 49 44 = (.istore 4, 2, 0, 0, []) := rfl
theorem zr_49_46 : z_co 49 46 = (.iinc 5 1, 3, 0, 0, []) := rfl
theorem zr_49_49 : z_co 49 49 = (.goto (-43), 3, 0, 0, []) := rfl
theorem zr_49_52 : z_co 49 52 = (.aload_n 0, 1, 0, 0, []) := rfl
theorem zr_49_53 : z_co 49 53 = (.aload_n 1, 1, 0, 0, []) := rfl
theorem zr_49_54 : z_co 49 54 = (.iload_n 3, 1, 0, 0, []) := rfl
theorem zr_49_55 : z_co 49 55 = (.iload 4, 2, 0, 0, []) := rfl
theorem zr_49_57 : z_co 49 57 = (.invokevirtual 76, 3, 50, 0, [850, 851, 852]) := rfl
theorem zr_49_60 : z_co 49 60 = (.return_, 1, 0, 0, []) := rfl
