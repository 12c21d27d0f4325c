/-! the rows: printed by a program -/
theorem zr_74_0 : z_co 74 0 = (.iconst 0, 1, 0, 0, []) := rfl
theorem zr_74_1 : z_co 74 1 = (.istore_n 2, 1, 0, 0, []) := rfl
theorem zr_74_2 : z_co 74 2 = (.iload_n 2, 1, 0, 0, []) := rfl
theorem zr_74_3 : z_co 74 3 = (.aload_n 0, 1, 0, 0, []) := rfl
theorem zr_74_4 : z_co 74 4 = (.arraylength, 1, 0, 0, []) := rfl
theorem zr_74_5 : z_co 74 5 = (.if_icmp .ge 37, 3, 0, 0, []) := rfl
theorem zr_74_8 : z_co 74 8 = (.iload_n 2, 1, 0, 0, []) := rfl
theorem zr_74_9 : z_co 74 9 = (.aload_n 1, 1, 0, 0, []) := rfl
theorem zr_74_10 : z_co 74 10 = (.arraylength, 1, 0, 0, []) := rfl
theorem zr_74_11 : z_co 74 11 = (.if_icmp .ge 31, 3, 0, 0, []) := rfl
theorem zr_74_14 : z_co 74 14 = (.aload_n 0, 1, 0, 0, []) := rfl
theorem zr_74_15 : z_co 74 15 = (.iload_n 2, 1, 0, 0, []) := rfl
theorem zr_74_16 : z_co 74 16 = (.aaload, 1, 0, 0, []) := rfl
theorem zr_74_17 : z_co 74 17 = (.iconst 0, 1, 0, 0, []) := rfl
theorem zr_74_18 : z_co 74 18 = (.aload_n 1, 1, 0, 0, []) := rfl
theorem zr_74_19 : z_co 74 19 = (.iload_n 2, 1, 0, 0, []) := rfl
theorem zr_74_20 : z_co 74 20 = (.aaload, 1, 0, 0, []) := rfl
theorem zr_74_21 : z_co 74 21 = (.iconst 0, 1, 0, 0, []) := rfl
theorem zr_74_22 : z_co 74 22 = (.aload_n 0, 1, 0, 0, []) := rfl
theorem zr_74_23 : z_co 74 23 = (.iload_n 2, 1, 0, 0, []) := rfl
theorem zr_74_24 : z_co 74 24 = (.aaload, 1, 0, 0, []) := rfl
theorem zr_74_25 : z_co 74 25 = (.arraylength, 1, 0, 0, []) := rfl
theorem zr_74_26 : z_co 74 26 = (.aload_n 1, 1, 0, 0, []) := rfl
theorem zr_74_27 : z_co 74 27 = (.iload_n 2, 1, 0, 0, []) := rfl
theorem zr_74_28 : z_co 74 28 = (.aaload, 1, 0, 0, []) := rfl
theorem zr_74_29 : z_co 74 29 = (.arraylength, 1, 0, 0, []) := rfl
theorem zr_74_30 : z_co 74 30 = (.invokestatic 67, 3, 261, 0, [1158, 599]) := rfl
theorem zr_74_33 : z_co 74 33 = (.invokestatic 46, 3, 1001, 0, [1060, 754, 753, 123]) := rfl
theorem zr_74_36 : z_co 74 36 = (.iinc 2 1, 3, 0, 0, []) := rfl
theorem zr_74_39 : z_co 74 39 = (.goto (-37), 3, 0, 0, []) := rfl
theorem zr_74_42 : z_co 74 42 = (.return_, 1, 0, 0, []) := rfl
theorem zr_75_0 : z_co 75 0 = (.iload_n 1, 1, 0, 0, []) := rfl
theorem zr_75_1 : z_co 75 1 = (.iconst 0, 1, 0, 0, []) := rfl
theorem zr_75_2 : z_co 75 2 = (.aload_n 0, 1, 0, 0, []) := rfl
theorem zr_75_3 : z_co 75 3 = (.getfield 52, 3, 10, 7, [164]) := rfl
theorem zr_75_6 : z_co 75 6 = (.iconst 1, 1, 0, 0, []) := rfl
theorem zr_75_7 : z_co 75 7 = (.isub, 1, 0, 0, []) := rfl
theorem zr_75_8 : z_co 75 8 = (.invokestatic 73, 3, 133, 1, [527, 497]) := rfl
theorem zr_75_11 : z_co 75 11 = (.ireturn, 1, 0, 0, []) := rfl
theorem zr_76_0 : z_co 76 0 = (.iload_n 1, 1, 0, 0, []) := rfl
theorem zr_76_1 : z_co 76 1 = (.iconst 0, 1, 0, 0, []) := rfl
theorem zr_76_2 : z_co 76 2 = (.aload_n 0, 1, 0, 0, []) := rfl
theorem zr_76_3 : z_co 76 3 = (.getfield 55, 3, 10, 8, [168]) := rfl
theorem zr_76_6 : z_co 76 6 = (.iconst 1, 1, 0, 0, []) := rfl
theorem zr_76_7 : z_co 76 7 = (.isub, 1, 0, 0, []) := rfl
theorem zr_76_8 : z_co 76 8 = (.invokestatic 73, 3, 133, 1, [527, 497]) := rfl
theorem zr_76_11 : z_co 76 11 = (.ireturn, 1, 0, 0, []) := rfl
theorem zr_77_0 : z_co 77 0 = (.aload_n 0, 1, 0, 0, []) := rfl
theorem zr_77_1 : z_co 77 1 = (.getfield 52, 3, 10, 7, [164]) := rfl
theorem zr_77_4 : z_co 77 4 = (.bipush 12, 2, 0, 0, []) := rfl
theorem zr_77_6 : z_co 77 6 = (.if_icmp .lt 5, 3, 0, 0, []) := rfl
theorem zr_77_9 : z_co 77 9 = (.iconst (-1), 1, 0, 0, []) := rfl
theorem zr_77_10 : z_co 77 10 = (.ireturn, 1, 0, 0, []) := rfl
theorem zr_77_11 : z_co 77 11 = (.aload_n 0, 1, 0, 0, []) := rfl
theorem zr_77_12 : z_co 77 12 = (.getfield 11, 3, 10, 0, [143]) := rfl
theorem zr_77_15 : z_co 77 15 = (.iconst 0, 1, 0, 0, []) := rfl
theorem zr_77_16 : z_co 77 16 = (.aaload, 1, 0, 0, []) := rfl
theorem zr_77_17 : z_co 77 17 = (.aload_n 0, 1, 0, 0, []) := rfl
theorem zr_77_18 : z_co 77 18 = (.getfield 52, 3, 10, 7, [164]) := rfl
theorem zr_77_21 : z_co 77 21 = (.iload_n 1, 1, 0, 0, []) := rfl
theorem zr_77_22 : z_co 77 22 = (.iastore, 1, 0, 0, []) := rfl
theorem zr_77_23 : z_co 77 23 = (.aload_n 0, 1, 0, 0, []) := rfl
theorem zr_77_24 : z_co 77 24 = (.getfield 11, 3, 10, 0, [143]) := rfl
theorem zr_77_27 : z_co 77 27 = (.iconst 1, 1, 0, 0, []) := rfl
theorem zr_77_28 : z_co 77 28 = (.aaload, 1, 0, 0, []) := rfl
theorem zr_77_29 : z_co 77 29 = (.aload_n 0, 1, 0, 0, []) := rfl
theorem zr_77_30 : z_co 77 30 = (.getfield 52, 3, 10, 7, [164]) := rfl
theorem zr_77_33 : z_co 77 33 = (.iload_n 2, 1, 0, 0, []) := rfl
theorem zr_77_34 : z_co 77 34 = (.iastore, 1, 0, 0, []) := rfl
theorem zr_77_35 : z_co 77 35 = (.aload_n 0, 1, 0, 0, []) := rfl
theorem zr_77_36 : z_co 77 36 = (.getfield 11, 3, 10, 0, [143]) := rfl
theorem zr_77_39 : z_co 77 39 = (.iconst 2, 1, 0, 0, []) := rfl
theorem zr_77_40 : z_co 77 40 = (.aaload, 1, 0, 0, []) := rfl
theorem zr_77_41 : z_co 77 41 = (.aload_n 0, 1, 0, 0, []) := rfl
theorem zr_77_42 : z_co 77 42 = (.getfield 52, 3, 10, 7, [164]) := rfl
theorem zr_77_45 : z_co 77 45 = (.iload_n 3, 1, 0, 0, []) := rfl
theorem zr_77_46 : z_co 77 46 = (.iastore, 1, 0, 0, []) := rfl
theorem zr_77_47 : z_co 77 47 = (.aload_n 0, 1, 0, 0, []) := rfl
theorem zr_77_48 : z_co 77 48 = (.getfield 11, 3, 10, 0, [143]) := rfl
theorem zr_77_51 : z_co 77 51 = (.iconst 3, 1, 0, 0, []) := rfl
theorem zr_77_52 : z_co 77 52 = (.aaload, 1, 0, 0, []) := rfl
theorem zr_77_53 : z_co 77 53 = (.aload_n 0, 1, 0, 0, []) := rfl
theorem zr_77_54 : z_co 77 54 = (.getfield 52, 3, 10, 7, [164]) := rfl
theorem zr_77_57 : z_co 77 57 = (.iconst 0, 1, 0, 0, []) := rfl
theorem zr_77_58 : z_co 77 58 = (.iastore, 1, 0, 0, []) := rfl
theorem zr_77_59 : z_co 77 59 = (.aload_n 0, 1, 0, 0, []) := rfl
theorem zr_77_60 : z_co 77 60 = (.dup, 1, 0, 0, []) := rfl
theorem zr_77_61 : z_co 77 61 = (.getfield 52, 3, 10, 7, [164]) := rfl
theorem zr_77_64 : z_co 77 64 = (.iconst 1, 1, 0, 0, []) := rfl
theorem zr_77_65 : z_co 77 65 = (.iadd, 1, 0, 0, []) := rfl
theorem zr_77_66 : z_co 77 66 = (.putfield 52, 3, 10, 7, [164]) := rfl
theorem zr_77_69 : z_co 77 69 = (.aload_n 0, 1, 0, 0, []) := rfl
theorem zr_77_70 : z_co 77 70 = (.getfield 52, 3, 10, 7, [164]) := rfl
theorem zr_77_73 : z_co 77 73 = (.iconst 1, 1, 0, 0, []) := rfl
theorem zr_77_74 : z_co 77 74 = (.isub, 1, 0, 0, []) := rfl
theorem zr_77_75 : z_co 77 75 = (.ireturn, 1, 0, 0, []) := rfl
theorem zr_78_0 : z_co 78 0 = (.aload_n 0, 1, 0, 0, []) := rfl
theorem zr_78_1 : z_co 78 1 = (.getfield 55, 3, 10, 8, [168]) := rfl
theorem zr_78_4 : z_co 78 4 = (.bipush 6, 2, 0, 0, []) := rfl
theorem zr_78_6 : z_co 78 6 = (.if_icmp .lt 5, 3, 0, 0, []) := rfl
theorem zr_78_9 : z_co 78 9 = (.iconst (-1), 1, 0, 0, []) := rfl
theorem zr_78_10 : z_co 78 10 = (.ireturn, 1, 0, 0, []) := rfl
theorem zr_78_11 : z_co 78 11 = (.aload_n 0, 1, 0, 0, []) := rfl
theorem zr_78_12 : z_co 78 12 = (.getfield 16, 3, 10, 1, [148]) := rfl
theorem zr_78_15 : z_co 78 15 = (.iconst 0, 1, 0, 0, []) := rfl
theorem zr_78_16 : z_co 78 16 = (.aaload, 1, 0, 0, []) := rfl
theorem zr_78_17 : z_co 78 17 = (.aload_n 0, 1, 0, 0, []) := rfl
theorem zr_78_18 : z_co 78 18 = (.getfield 55, 3, 10, 8, [168]) := rfl
theorem zr_78_21 : z_co 78 21 = (.iload_n 1, 1, 0, 0, []) := rfl
theorem zr_78_22 : z_co 78 22 = (.iastore, 1, 0, 0, []) := rfl
theorem zr_78_23 : z_co 78 23 = (.aload_n 0, 1, 0, 0, []) := rfl
theorem zr_78_24 : z_co 78 24 = (.getfield 16, 3, 10, 1, [148]) := rfl
theorem zr_78_27 : z_co 78 27 = (.iconst 1, 1, 0, 0, []) := rfl
theorem zr_78_28 : z_co 78 28 = (.aaload, 1, 0, 0, []) := rfl
theorem zr_78_29 : z_co 78 29 = (.aload_n 0, 1, 0, 0, []) := rfl
theorem zr_78_30 : z_co 78 30 = (.getfield 55, 3, 10, 8, [168]) := rfl
theorem zr_78_33 : z_co 78 33 = (.iload_n 2, 1, 0, 0, []) := rfl
theorem zr_78_34 : z_co 78 34 = (.iastore, 1, 0, 0, []) := rfl
theorem zr_78_35 : z_co 78 35 = (.aload_n 0, 1, 0, 0, []) := rfl
theorem zr_78_36 : z_co 78 36 = (.dup, 1, 0, 0, []) := rfl
theorem zr_78_37 : z_co 78 37 = (.getfield 55, 3, 10, 8, [168]) := rfl
theorem zr_78_40 : z_co 78 40 = (.iconst 1, 1, 0, 0, []) := rfl
theorem zr_78_41 : z_co 78 41 = (.iadd, 1, 0, 0, []) := rfl
theorem zr_78_42 : z_co 78 42 = (.putfield 55, 3, 10, 8, [168]) := rfl
theorem zr_78_45 : z_co 78 45 = (.aload_n 0, 1, 0, 0, []) := rfl
theorem zr_78_46 : z_co 78 46 = (.getfield 55, 3, 10, 8, [168]) := rfl
theorem zr_78_49 : z_co 78 49 = (.iconst 1, 1, 0, 0, []) := rfl
theorem zr_78_50 : z_co 78 50 = (.isub, 1, 0, 0, []) := rfl
theorem zr_78_51 : z_co 78 51 = (.ireturn, 1, 0, 0, []) := rfl
theorem zr_79_0 : z_co 79 0 = (.aload_n 0, 1, 0, 0, []) := rfl
theorem zr_79_1 : z_co 79 1 = (.getfield 58, 3, 10, 9, [172]) := rfl
theorem zr_79_4 : z_co 79 4 = (.bipush 6, 2, 0, 0, []) := rfl
theorem zr_79_6 : z_co 79 6 = (.if_icmp .lt 5, 3, 0, 0, []) := rfl
theorem zr_79_9 : z_co 79 9 = (.iconst (-1), 1, 0, 0, []) := rfl
theorem zr_79_10 : z_co 79 10 = (.ireturn, 1, 0, 0, []) := rfl
theorem zr_79_11 : z_co 79 11 = (.aload_n 0, 1, 0, 0, []) := rfl
theorem zr_79_12 : z_co 79 12 = (.getfield 25, 3, 10, 3, [156]) := rfl
theorem zr_79_15 : z_co 79 15 = (.aload_n 0, 1, 0, 0, []) := rfl
theorem zr_79_16 : z_co 79 16 = (.getfield 58, 3, 10, 9, [172]) := rfl
theorem zr_79_19 : z_co 79 19 = (.aload_n 1, 1, 0, 0, []) := rfl
theorem zr_79_20 : z_co 79 20 = (.aastore, 1, 0, 0, []) := rfl
theorem zr_79_21 : z_co 79 21 = (.aload_n 0, 1, 0, 0, []) := rfl
theorem zr_79_22 : z_co 79 22 = (.dup, 1, 0, 0, []) := rfl
theorem zr_79_23 : z_co 79 23 = (.getfield 58, 3, 10, 9, [172]) := rfl
theorem zr_79_26 : z_co 79 26 = (.iconst 1, 1, 0, 0, []) := rfl
theorem zr_79_27 : z_co 79 27 = (.iadd, 1, 0, 0, []) := rfl
theorem zr_79_28 : z_co 79 28 = (.putfield 58, 3, 10, 9, [172]) := rfl
theorem zr_79_31 : z_co 79 31 = (.aload_n 0, 1, 0, 0, []) := rfl
theorem zr_79_32 : z_co 79 32 = (.getfield 58, 3, 10, 9, [172]) := rfl
theorem zr_79_35 : z_co 79 35 = (.iconst 1, 1, 0, 0, []) := rfl
theorem zr_79_36 : z_co 79 36 = (.isub, 1, 0, 0, []) := rfl
theorem zr_79_37 : z_co 79 37 = (.ireturn, 1, 0, 0, []) := rfl
theorem zr_80_0 : z_co 80 0 = (.aload_n 0, 1, 0, 0, []) := rfl
theorem zr_80_1 : z_co 80 1 = (.getfield 61, 3, 10, 11, [176]) := rfl
theorem zr_80_4 : z_co 80 4 = (.bipush 7, 2, 0, 0, []) := rfl
theorem zr_80_6 : z_co 80 6 = (.if_icmp .lt 5, 3, 0, 0, []) := rfl
theorem zr_80_9 : z_co 80 9 = (.iconst (-1), 1, 0, 0, []) := rfl
theorem zr_80_10 : z_co 80 10 = (.ireturn, 1, 0, 0, []) := rfl
theorem zr_80_11 : z_co 80 11 = (.aload_n 0, 1, 0, 0, []) := rfl
theorem zr_80_12 : z_co 80 12 = (.getfield 29, 3, 10, 4, [157]) := rfl
theorem zr_80_15 : z_co 80 15 = (.iconst 0, 1, 0, 0, []) := rfl
theorem zr_80_16 : z_co 80 16 = (.aaload, 1, 0, 0, []) := rfl
theorem zr_80_17 : z_co 80 17 = (.aload_n 0, 1, 0, 0, []) := rfl
theorem zr_80_18 : z_co 80 18 = (.getfield 61, 3, 10, 11, [176]) := rfl
theorem zr_80_21 : z_co 80 21 = (.iload_n 1, 1, 0, 0, []) := rfl
theorem zr_80_22 : z_co 80 22 = (.iastore, 1, 0, 0, []) := rfl
theorem zr_80_23 : z_co 80 23 = (.aload_n 0, 1, 0, 0, []) := rfl
theorem zr_80_24 : z_co 80 24 = (.getfield 29, 3, 10, 4, [157]) := rfl
theorem zr_80_27 : z_co 80 27 = (.iconst 1, 1, 0, 0, []) := rfl
theorem zr_80_28 : z_co 80 28 = (.aaload, 1, 0, 0, []) := rfl
theorem zr_80_29 : z_co 80 29 = (.aload_n 0, 1, 0, 0, []) := rfl
theorem zr_80_30 : z_co 80 30 = (.getfield 61, 3, 10, 11, [176]) := rfl
theorem zr_80_33 : z_co 80 33 = (.iload_n 2, 1, 0, 0, []) := rfl
theorem zr_80_34 : z_co 80 34 = (.iastore, 1, 0, 0, []) := rfl
theorem zr_80_35 : z_co 80 35 = (.aload_n 0, 1, 0, 0, []) := rfl
theorem zr_80_36 : z_co 80 36 = (.dup, 1, 0, 0, []) := rfl
theorem zr_80_37 : z_co 80 37 = (.getfield 61, 3, 10, 11, [176]) := rfl
theorem zr_80_40 : z_co 80 40 = (.iconst 1, 1, 0, 0, []) := rfl
theorem zr_80_41 : z_co 80 41 = (.iadd, 1, 0, 0, []) := rfl
theorem zr_80_42 : z_co 80 42 = (.putfield 61, 3, 10, 11, [176]) := rfl
theorem zr_80_45 : z_co 80 45 = (.aload_n 0, 1, 0, 0, []) := rfl
theorem zr_80_46 : z_co 80 46 = (.getfield 61, 3, 10, 11, [176]) := rfl
theorem zr_80_49 : z_co 80 49 = (.iconst 1, 1, 0, 0, []) := rfl
theorem zr_80_50 : z_co 80 50 = (.isub, 1, 0, 0, []) := rfl
theorem zr_80_51 : z_co 80 51 = (.ireturn, 1, 0, 0, []) := rfl
theorem zr_81_0 : z_co 81 0 = (.aload_n 0, 1, 0, 0, []) := rfl
theorem zr_81_1 : z_co 81 1 = (.getfield 64, 3, 10, 12, [180]) := rfl
theorem zr_81_4 : z_co 81 4 = (.bipush 8, 2, 0, 0, []) := rfl
theorem zr_81_6 : z_co 81 6 = (.if_icmp .lt 5, 3, 0, 0, []) := rfl
theorem zr_81_9 : z_co 81 9 = (.iconst (-1), 1, 0, 0, []) := rfl
theorem zr_81_10 : z_co 81 10 = (.ireturn, 1, 0, 0, []) := rfl
theorem zr_81_11 : z_co 81 11 = (.aload_n 0, 1, 0, 0, []) := rfl
theorem zr_81_12 : z_co 81 12 = (.getfield 32, 3, 10, 5, [160]) := rfl
theorem zr_81_15 : z_co 81 15 = (.aload_n 0, 1, 0, 0, []) := rfl
theorem zr_81_16 : z_co 81 16 = (.getfield 64, 3, 10, 12, [180]) := rfl
theorem zr_81_19 : z_co 81 19 = (.iload_n 1, 1, 0, 0, []) := rfl
theorem zr_81_20 : z_co 81 20 = (.iastore, 1, 0, 0, []) := rfl
theorem zr_81_21 : z_co 81 21 = (.aload_n 0, 1, 0, 0, []) := rfl
theorem zr_81_22 : z_co 81 22 = (.dup, 1, 0, 0, []) := rfl
theorem zr_81_23 : z_co 81 23 = (.getfield 64, 3, 10, 12, [180]) := rfl
theorem zr_81_26 : z_co 81 26 = (.iconst 1, 1, 0, 0, []) := rfl
theorem zr_81_27 : z_co 81 27 = (.iadd, 1, 0, 0, []) := rfl
theorem zr_81_28 : z_co 81 28 = (.putfield 64, 3, 10, 12, [180]) := rfl
theorem zr_81_31 : z_co 81 31 = (.aload_n 0, 1, 0, 0, []) := rfl
theorem zr_81_32 : z_co 81 32 = (.getfield 64, 3, 10, 12, [180]) := rfl
theorem zr_81_35 : z_co 81 35 = (.ireturn, 1, 0, 0, []) := rfl
theorem zr_82_0 : z_co 82 0 = (.iload_n 1, 1, 0, 0, []) := rfl
theorem zr_82_1 : z_co 82 1 = (.iconst 0, 1, 0, 0, []) := rfl
theorem zr_82_2 : z_co 82 2 = (.invokestatic 77, 3, 260, 0, [948, 610]) := rfl
theorem zr_82_5 : z_co 82 5 = (.iconst 1, 1, 0, 0, []) := rfl
theorem zr_82_6 : z_co 82 6 = (.iadd, 1, 0, 0, []) := rfl
theorem zr_82_7 : z_co 82 7 = (.istore_n 2, 1, 0, 0, []) := rfl
theorem zr_82_8 : z_co 82 8 = (.iload_n 2, 1, 0, 0, []) := rfl
theorem zr_82_9 : z_co 82 9 = (.aload_n 0, 1, 0, 0, []) := rfl
theorem zr_82_10 : z_co 82 10 = (.getfield 61, 3, 10, 11, [176]) := rfl
theorem zr_82_13 : z_co 82 13 = (.if_icmp .ge 45, 3, 0, 0, []) := rfl
theorem zr_82_16 : z_co 82 16 = (.aload_n 0, 1, 0, 0, []) := rfl
theorem zr_82_17 : z_co 82 17 = (.getfield 29, 3, 10, 4, [157]) := rfl
theorem zr_82_20 : z_co 82 20 = (.iconst 0, 1, 0, 0, []) := rfl
theorem zr_82_21 : z_co 82 21 = (.aaload, 1, 0, 0, []) := rfl
theorem zr_82_22 : z_co 82 22 = (.iload_n 2, 1, 0, 0, []) := rfl
theorem zr_82_23 : z_co 82 23 = (.iconst 1, 1, 0, 0, []) := rfl
theorem zr_82_24 : z_co 82 24 = (.isub, 1, 0, 0, []) := rfl
theorem zr_82_25 : z_co 82 25 = (.aload_n 0, 1, 0, 0, []) := rfl
theorem zr_82_26 : z_co 82 26 = (.getfield 29, 3, 10, 4, [157]) := rfl
theorem zr_82_29 : z_co 82 29 = (.iconst 0, 1, 0, 0, []) := rfl
theorem zr_82_30 : z_co 82 30 = (.aaload, 1, 0, 0, []) := rfl
theorem zr_82_31 : z_co 82 31 = (.iload_n 2, 1, 0, 0, []) := rfl
theorem zr_82_32 : z_co 82 32 = (.iaload, 1, 0, 0, []) := rfl
theorem zr_82_33 : z_co 82 33 = (.iastore, 1, 0, 0, []) := rfl
theorem zr_82_34 : z_co 82 34 = (.aload_n 0, 1, 0, 0, []) := rfl
theorem zr_82_35 : z_co 82 35 = (.getfield 29, 3, 10, 4, [157]) := rfl
theorem zr_82_38 : z_co 82 38 = (.iconst 1, 1, 0, 0, []) := rfl
theorem zr_82_39 : z_co 82 39 = (.aaload, 1, 0, 0, []) := rfl
theorem zr_82_40 : z_co 82 40 = (.iload_n 2, 1, 0, 0, []) := rfl
theorem zr_82_41 : z_co 82 41 = (.iconst 1, 1, 0, 0, []) := rfl
theorem zr_82_42 : z_co 82 42 = (.isub, 1, 0, 0, []) := rfl
theorem zr_82_43 : z_co 82 43 = (.aload_n 0, 1, 0, 0, []) := rfl
theorem zr_82_44 : z_co 82 44 = (.getfield 29, 3, 10, 4, [157]) := rfl
theorem zr_82_47 : z_co 82 47 = (.iconst 1, 1, 0, 0, []) := rfl
theorem zr_82_48 : z_co 82 48 = (.aaload, 1, 0, 0, []) := rfl
theorem zr_82_49 : z_co 82 49 = (.iload_n 2, 1, 0, 0, []) := rfl
theorem zr_82_50 : z_co 82 50 = (.iaload, 1, 0, 0, []) := rfl
theorem zr_82_51 : z_co 82 51 = (.iastore, 1, 0, 0, []) := rfl
theorem zr_82_52 : z_co 82 52 = (.iinc 2 1, 3, 0, 0, []) := rfl
theorem zr_82_55 : z_co 82 55 = (.goto (-47), 3, 0, 0, []) := rfl
theorem zr_82_58 : z_co 82 58 = (.aload_n 0, 1, 0, 0, []) := rfl
theorem zr_82_59 : z_co 82 59 = (.dup, 1, 0, 0, []) := rfl
theorem zr_82_60 : z_co 82 60 = (.getfield 61, 3, 10, 11, [176]) := rfl
theorem zr_82_63 : z_co 82 63 = (.iconst 1, 1, 0, 0, []) := rfl
theorem zr_82_64 : z_co 82 64 = (.isub, 1, 0, 0, []) := rfl
theorem zr_82_65 : z_co 82 65 = (.putfield 61, 3, 10, 11, [176]) := rfl
theorem zr_82_68 : z_co 82 68 = (.return_, 1, 0, 0, []) := rfl
theorem zr_83_0 : z_co 83 0 = (.iconst 0, 1, 0, 0, []) := rfl
theorem zr_83_1 : z_co 83 1 = (.istore_n 2, 1, 0, 0, []) := rfl
theorem zr_83_2 : z_co 83 2 = (.iconst 0, 1, 0, 0, []) := rfl
theorem zr_83_3 : z_co 83 3 = (.istore_n 3, 1, 0, 0, []) := rfl
theorem zr_83_4 : z_co 83 4 = (.iload_n 3, 1, 0, 0, []) := rfl
theorem zr_83_5 : z_co 83 5 = (.iload_n 1, 1, 0, 0, []) := rfl
theorem zr_83_6 : z_co 83 6 = (.if_icmp .gt 28, 3, 0, 0, []) := rfl
theorem zr_83_9 : z_co 83 9 = (.iload_n 3, 1, 0, 0, []) := rfl
theorem zr_83_10 : z_co 83 10 = (.aload_n 0, 1, 0, 0, []) := rfl
theorem zr_83_11 : z_co 83 11 = (.getfield 52, 3, 10, 7, [164]) := rfl
theorem zr_83_14 : z_co 83 14 = (.if_icmp .ge 20, 3, 0, 0, []) := rfl
theorem zr_83_17 : z_co 83 17 = (.iload_n 2, 1, 0, 0, []) := rfl
theorem zr_83_18 : z_co 83 18 = (.aload_n 0, 1, 0, 0, []) := rfl
theorem zr_83_19 : z_co 83 19 = (.getfield 11, 3, 10, 0, [143]) := rfl
theorem zr_83_22 : z_co 83 22 = (.iconst 0, 1, 0, 0, []) := rfl
theorem zr_83_23 : z_co 83 23 = (.aaload, 1, 0, 0, []) := rfl
theorem zr_83_24 : z_co 83 24 = (.iload_n 3, 1, 0, 0, []) := rfl
theorem zr_83_25 : z_co 83 25 = (.iaload, 1, 0, 0, []) := rfl
theorem zr_83_26 : z_co 83 26 = (.iadd, 1, 0, 0, []) := rfl
theorem zr_83_27 : z_co 83 27 = (.istore_n 2, 1, 0, 0, []) := rfl
theorem zr_83_28 : z_co 83 28 = (.iinc 3 1, 3, 0, 0, []) := rfl
theorem zr_83_31 : z_co 83 31 = (.goto (-27), 3, 0, 0, []) := rfl
theorem zr_83_34 : z_co 83 34 = (.iload_n 2, 1, 0, 0, []) := rfl
theorem zr_83_35 : z_co 83 35 = (.ireturn, 1, 0, 0, []) := rfl
theorem zr_84_0 : z_co 84 0 = (.iconst 0, 1, 0, 0, []) := rfl
theorem zr_84_1 : z_co 84 1 = (.istore_n 1, 1, 0, 0, []) := rfl
theorem zr_84_2 : z_co 84 2 = (.iconst 0, 1, 0, 0, []) := rfl
theorem zr_84_3 : z_co 84 3 = (.istore_n 2, 1, 0, 0, []) := rfl
theorem zr_84_4 : z_co 84 4 = (.iload_n 2, 1, 0, 0, []) := rfl
theorem zr_84_5 : z_co 84 5 = (.aload_n 0, 1, 0, 0, []) := rfl
theorem zr_84_6 : z_co 84 6 = (.getfield 52, 3, 10, 7, [164]) := rfl
theorem zr_84_9 : z_co 84 9 = (.if_icmp .ge 20, 3, 0, 0, []) := rfl
theorem zr_84_12 : z_co 84 12 = (.iload_n 1, 1, 0, 0, []) := rfl
theorem zr_84_13 : z_co 84 13 = (.aload_n 0, 1, 0, 0, []) := rfl
theorem zr_84_14 : z_co 84 14 = (.getfield 11, 3, 10, 0, [143]) := rfl
theorem zr_84_17 : z_co 84 17 = (.iconst 3, 1, 0, 0, []) := rfl
theorem zr_84_18 : z_co 84 18 = (.aaload, 1, 0, 0, []) := rfl
theorem zr_84_19 : z_co 84 19 = (.iload_n 2, 1, 0, 0, []) := rfl
theorem zr_84_20 : z_co 84 20 = (.iaload, 1, 0, 0, []) := rfl
theorem zr_84_21 : z_co 84 21 = (.iadd, 1, 0, 0, []) := rfl
theorem zr_84_22 : z_co 84 22 = (.istore_n 1, 1, 0, 0, []) := rfl
theorem zr_84_23 : z_co 84 23 = (.iinc 2 1, 3, 0, 0, []) := rfl
theorem zr_84_26 : z_co 84 26 = (.goto (-22), 3, 0, 0, []) := rfl
theorem zr_84_29 : z_co 84 29 = (.iload_n 1, 1, 0, 0, []) := rfl
theorem zr_84_30 : z_co 84 30 = (.ireturn, 1, 0, 0, []) := rfl
theorem zr_85_0 : z_co 85 0 = (.aload_n 0, 1, 0, 0, []) := rfl
theorem zr_85_1 : z_co 85 1 = (.getfield 38, 3, 10, 10, [174]) := rfl
theorem zr_85_4 : z_co 85 4 = (.iconst 0, 1, 0, 0, []) := rfl
theorem zr_85_5 : z_co 85 5 = (.aload_n 0, 1, 0, 0, []) := rfl
theorem zr_85_6 : z_co 85 6 = (.getfield 58, 3, 10, 9, [172]) := rfl
theorem zr_85_9 : z_co 85 9 = (.iconst 1, 1, 0, 0, []) := rfl
theorem zr_85_10 : z_co 85 10 = (.isub, 1, 0, 0, []) := rfl
theorem zr_85_11 : z_co 85 11 = (.invokestatic 73, 3, 133, 1, [527, 497]) := rfl
theorem zr_85_14 : z_co 85 14 = (.ifCond .eq 15, 3, 0, 0, []) := rfl
theorem zr_85_17 : z_co 85 17 = (.aload_n 0, 1, 0, 0, []) := rfl
theorem zr_85_18 : z_co 85 18 = (.getfield 25, 3, 10, 3, [156]) := rfl
theorem zr_85_21 : z_co 85 21 = (.aload_n 0, 1, 0, 0, []) := rfl
theorem zr_85_22 : z_co 85 22 = (.getfield 38, 3, 10, 10, [174]) := rfl
theorem zr_85_25 : z_co 85 25 = (.aaload, 1, 0, 0, []) := rfl
theorem zr_85_26 : z_co 85 26 = (.goto 4, 3, 0, 0, []) := rfl
theorem zr_85_29 : z_co 85 29 = (.aconst_null, 1, 0, 0, []) := rfl
theorem zr_85_30 : z_co 85 30 = (.areturn, 1, 0, 0, []) := rfl
theorem zr_86_0 : z_co 86 0 = (.iconst 0, 1, 0, 0, []) := rfl
theorem zr_86_1 : z_co 86 1 = (.istore_n 1, 1, 0, 0, []) := rfl
theorem zr_86_2 : z_co 86 2 = (.iconst 0, 1, 0, 0, []) := rfl
theorem zr_86_3 : z_co 86 3 = (.istore_n 2, 1, 0, 0, []) := rfl
theorem zr_86_4 : z_co 86 4 = (.iload_n 2, 1, 0, 0, []) := rfl
theorem zr_86_5 : z_co 86 5 = (.aload_n 0, 1, 0, 0, []) := rfl
theorem zr_86_6 : z_co 86 6 = (.getfield 61, 3, 10, 11, [176]) := rfl
theorem zr_86_9 : z_co 86 9 = (.if_icmp .ge 22, 3, 0, 0, []) := rfl
theorem zr_86_12 : z_co 86 12 = (.iload_n 1, 1, 0, 0, []) := rfl
theorem zr_86_13 : z_co 86 13 = (.iconst 1, 1, 0, 0, []) := rfl
theorem zr_86_14 : z_co 86 14 = (.aload_n 0, 1, 0, 0, []) := rfl
theorem zr_86_15 : z_co 86 15 = (.getfield 29, 3, 10, 4, [157]) := rfl
theorem zr_86_18 : z_co 86 18 = (.iconst 0, 1, 0, 0, []) := rfl
theorem zr_86_19 : z_co 86 19 = (.aaload, 1, 0, 0, []) := rfl
theorem zr_86_20 : z_co 86 20 = (.iload_n 2, 1, 0, 0, []) := rfl
theorem zr_86_21 : z_co 86 21 = (.iaload, 1, 0, 0, []) := rfl
theorem zr_86_22 : z_co 86 22 = (.ishl, 1, 0, 0, []) := rfl
theorem zr_86_23 : z_co 86 23 = (.ior, 1, 0, 0, []) := rfl
theorem zr_86_24 : z_co 86 24 = (.istore_n 1, 1, 0, 0, []) := rfl
theorem zr_86_25 : z_co 86 25 = (.iinc 2 1, 3, 0, 0, []) := rfl
theorem zr_86_28 : z_co 86 28 = (.goto (-24), 3, 0, 0, []) := rfl
theorem zr_86_31 : z_co 86 31 = (.iload_n 1, 1, 0, 0, []) := rfl
theorem zr_86_32 : z_co 86 32 = (.ireturn, 1, 0, 0, []) := rfl
theorem zr_87_0 : z_co 87 0 = (.aload_n 1, 1, 0, 0, []) := rfl
theorem zr_87_1 : z_co 87 1 = (.arraylength, 1, 0, 0, []) := rfl
theorem zr_87_2 : z_co 87 2 = (.aload_n 0, 1, 0, 0, []) := rfl
theorem zr_87_3 : z_co 87 3 = (.getfield 52, 3, 10, 7, [164]) := rfl
theorem zr_87_6 : z_co 87 6 = (.if_icmp .ge 4, 3, 0, 0, []) := rfl
theorem zr_87_9 : z_co 87 9 = (.return_, 1, 0, 0, []) := rfl
theorem zr_87_10 : z_co 87 10 = (.iconst 0, 1, 0, 0, []) := rfl
theorem zr_87_11 : z_co 87 11 = (.istore_n 2, 1, 0, 0, []) := rfl
theorem zr_87_12 : z_co 87 12 = (.iload_n 2, 1, 0, 0, []) := rfl
theorem zr_87_13 : z_co 87 13 = (.iconst 3, 1, 0, 0, []) := rfl
theorem zr_87_14 : z_co 87 14 = (.if_icmp .gt 70, 3, 0, 0, []) := rfl
theorem zr_87_17 : z_co 87 17 = (.aload_n 0, 1, 0, 0, []) := rfl
theorem zr_87_18 : z_co 87 18 = (.getfield 11, 3, 10, 0, [143]) := rfl
theorem zr_87_21 : z_co 87 21 = (.iload_n 2, 1, 0, 0, []) := rfl
theorem zr_87_22 : z_co 87 22 = (.aaload, 1, 0, 0, []) := rfl
theorem zr_87_23 : z_co 87 23 = (.iconst 0, 1, 0, 0, []) := rfl
theorem zr_87_24 : z_co 87 24 = (.aload_n 0, 1, 0, 0, []) := rfl
theorem zr_87_25 : z_co 87 25 = (.getfield 35, 3, 10, 6, [161]) := rfl
theorem zr_87_28 : z_co 87 28 = (.iconst 0, 1, 0, 0, []) := rfl
theorem zr_87_29 : z_co 87 29 = (.aload_n 0, 1, 0, 0, []) := rfl
theorem zr_87_30 : z_co 87 30 = (.getfield 52, 3, 10, 7, [164]) := rfl
theorem zr_87_33 : z_co 87 33 = (.invokestatic 46, 3, 1001, 0, [1060, 754, 753, 123]) := rfl
theorem zr_87_36 : z_co 87 36 = (.iconst 0, 1, 0, 0, []) := rfl
theorem zr_87_37 : z_co 87 37 = (.istore_n 3, 1, 0, 0, []) := rfl
theorem zr_87_38 : z_co 87 38 = (.iload_n 3, 1, 0, 0, []) := rfl
theorem zr_87_39 : z_co 87 39 = (.aload_n 0, 1, 0, 0, []) := rfl
theorem zr_87_40 : z_co 87 40 = (.getfield 52, 3, 10, 7, [164]) := rfl
theorem zr_87_43 : z_co 87 43 = (.if_icmp .ge 35, 3, 0, 0, []) := rfl
theorem zr_87_46 : z_co 87 46 = (.aload_n 0, 1, 0, 0, []) := rfl
theorem zr_87_47 : z_co 87 47 = (.aload_n 1, 1, 0, 0, []) := rfl
theorem zr_87_48 : z_co 87 48 = (.iload_n 3, 1, 0, 0, []) := rfl
theorem zr_87_49 : z_co 87 49 = (.iaload, 1, 0, 0, []) := rfl
theorem zr_87_50 : z_co 87 50 = (.invokevirtual 80, 3, 75, 0, [1061, 524, 525]) := rfl
theorem zr_87_53 : z_co 87 53 = (.ifCond .eq 19, 3, 0, 0, []) := rfl
theorem zr_87_56 : z_co 87 56 = (.aload_n 0, 1, 0, 0, []) := rfl
theorem zr_87_57 : z_co 87 57 = (.getfield 11, 3, 10, 0, [143]) := rfl
theorem zr_87_60 : z_co 87 60 = (.iload_n 2, 1, 0, 0, []) := rfl
theorem zr_87_61 : z_co 87 61 = (.aaload, 1, 0, 0, []) := rfl
theorem zr_87_62 : z_co 87 62 = (.iload_n 3, 1, 0, 0, []) := rfl
theorem zr_87_63 : z_co 87 63 = (.aload_n 0, 1, 0, 0, []) := rfl
theorem zr_87_64 : z_co 87 64 = (.getfield 35, 3, 10, 6, [161]) := rfl
theorem zr_87_67 : z_co 87 67 = (.aload_n 1, 1, 0, 0, []) := rfl
theorem zr_87_68 : z_co 87 68 = (.iload_n 3, 1, 0, 0, []) := rfl
theorem zr_87_69 : z_co 87 69 = (.iaload, 1, 0, 0, []) := rfl
theorem zr_87_70 : z_co 87 70 = (.iaload, 1, 0, 0, []) := rfl
theorem zr_87_71 : z_co 87 71 = (.iastore, 1, 0, 0, []) := rfl
theorem zr_87_72 : z_co 87 72 = (.iinc 3 1, 3, 0, 0, []) := rfl
theorem zr_87_75 : z_co 87 75 = (.goto (-37), 3, 0, 0, []) := rfl
theorem zr_87_78 : z_co 87 78 = (.iinc 2 1, 3, 0, 0, []) := rfl
theorem zr_87_81 : z_co 87 81 = (.goto (-69), 3, 0, 0, []) := rfl
theorem zr_87_84 : z_co 87 84 = (.iconst 0, 1, 0, 0, []) := rfl
theorem zr_87_85 : z_co 87 85 = (.istore_n 2, 1, 0, 0, []) := rfl
theorem zr_87_86 : z_co 87 86 = (.iload_n 2, 1, 0, 0, []) := rfl
theorem zr_87_87 : z_co 87 87 = (.aload_n 0, 1, 0, 0, []) := rfl
theorem zr_87_88 : z_co 87 88 = (.getfield 61, 3, 10, 11, [176]) := rfl
theorem zr_87_91 : z_co 87 91 = (.if_icmp .ge 30, 3, 0, 0, []) := rfl
theorem zr_87_94 : z_co 87 94 = (.aload_n 0, 1, 0, 0, []) := rfl
theorem zr_87_95 : z_co 87 95 = (.getfield 29, 3, 10, 4, [157]) := rfl
theorem zr_87_98 : z_co 87 98 = (.iconst 1, 1, 0, 0, []) := rfl
theorem zr_87_99 : z_co 87 99 = (.aaload, 1, 0, 0, []) := rfl
theorem zr_87_100 : z_co 87 100 = (.iload_n 2, 1, 0, 0, []) := rfl
theorem zr_87_101 : z_co 87 101 = (.aload_n 0, 1, 0, 0, []) := rfl
theorem zr_87_102 : z_co 87 102 = (.aload_n 1, 1, 0, 0, []) := rfl
theorem zr_87_103 : z_co 87 103 = (.aload_n 0, 1, 0, 0, []) := rfl
theorem zr_87_104 : z_co 87 104 = (.getfield 29, 3, 10, 4, [157]) := rfl
theorem zr_87_107 : z_co 87 107 = (.iconst 1, 1, 0, 0, []) := rfl
theorem zr_87_108 : z_co 87 108 = (.aaload, 1, 0, 0, []) := rfl
theorem zr_87_109 : z_co 87 109 = (.iload_n 2, 1, 0, 0, []) := rfl
theorem zr_87_110 : z_co 87 110 = (.iaload, 1, 0, 0, []) := rfl
theorem zr_87_111 : z_co 87 111 = (.invokevirtual 84, 3, 88, 0, [1062, 1064, 41]) := rfl
theorem zr_87_114 : z_co 87 114 = (.iastore, 1, 0, 0, []) := rfl
theorem zr_87_115 : z_co 87 115 = (.iinc 2 1, 3, 0, 0, []) := rfl
theorem zr_87_118 : z_co 87 118 = (.goto (-32), 3, 0, 0, []) := rfl
theorem zr_87_121 : z_co 87 121 = (.return_, 1, 0, 0, []) := rfl
theorem zr_88_0 : z_co 88 0 = (.iconst 0, 1, 0, 0, []) := rfl
theorem zr_88_1 : z_co 88 1 = (.istore_n 3, 1, 0, 0, []) := rfl
theorem zr_88_2 : z_co 88 2 = (.iload_n 3, 1, 0, 0, []) := rfl
theorem zr_88_3 : z_co 88 3 = (.aload_n 0, 1, 0, 0, []) := rfl
theorem zr_88_4 : z_co 88 4 = (.getfield 52, 3, 10, 7, [164]) := rfl
theorem zr_88_7 : z_co 88 7 = (.if_icmp .ge 24, 3, 0, 0, []) := rfl
theorem zr_88_10 : z_co 88 10 = (.iload_n 3, 1, 0, 0, []) := rfl
theorem zr_88_11 : z_co 88 11 = (.aload_n 1, 1, 0, 0, []) := rfl
theorem zr_88_12 : z_co 88 12 = (.arraylength, 1, 0, 0, []) := rfl
theorem zr_88_13 : z_co 88 13 = (.if_icmp .ge 18, 3, 0, 0, []) := rfl
theorem zr_88_16 : z_co 88 16 = (.aload_n 1, 1, 0, 0, []) := rfl
theorem zr_88_17 : z_co 88 17 = (.iload_n 3, 1, 0, 0, []) := rfl
theorem zr_88_18 : z_co 88 18 = (.iaload, 1, 0, 0, []) := rfl
theorem zr_88_19 : z_co 88 19 = (.iload_n 2, 1, 0, 0, []) := rfl
theorem zr_88_20 : z_co 88 20 = (.if_icmp .ne 5, 3, 0, 0, []) := rfl
theorem zr_88_23 : z_co 88 23 = (.iload_n 3, 1, 0, 0, []) := rfl
theorem zr_88_24 : z_co 88 24 = (.ireturn, 1, 0, 0, []) := rfl
theorem zr_88_25 : z_co 88 25 = (.iinc 3 1, 3, 0, 0, []) := rfl
theorem zr_88_28 : z_co 88 28 = (.goto (-26), 3, 0, 0, []) := rfl
theorem zr_88_31 : z_co 88 31 = (.iload_n 2, 1, 0, 0, []) := rfl
theorem zr_88_32 : z_co 88 32 = (.ireturn, 1, 0, 0, []) := rfl
theorem zr_89_0 : z_co 89 0 = (.aload_n 0, 1, 0, 0, []) := rfl
theorem zr_89_1 : z_co 89 1 = (.iload_n 1, 1, 0, 0, []) := rfl
theorem zr_89_2 : z_co 89 2 = (.invokevirtual 80, 3, 75, 0, [1061, 524, 525]) := rfl
theorem zr_89_5 : z_co 89 5 = (.ifCond .eq 34, 3, 0, 0, []) := rfl
theorem zr_89_8 : z_co 89 8 = (.aload_n 0, 1, 0, 0, []) := rfl
theorem zr_89_9 : z_co 89 9 = (.iload_n 2, 1, 0, 0, []) := rfl
theorem zr_89_10 : z_co 89 10 = (.invokevirtual 80, 3, 75, 0, [1061, 524, 525]) := rfl
theorem zr_89_13 : z_co 89 13 = (.ifCond .eq 26, 3, 0, 0, []) := rfl
theorem zr_89_16 : z_co 89 16 = (.aload_n 0, 1, 0, 0, []) := rfl
theorem zr_89_17 : z_co 89 17 = (.getfield 11, 3, 10, 0, [143]) := rfl
theorem zr_89_20 : z_co 89 20 = (.iconst 0, 1, 0, 0, []) := rfl
theorem zr_89_21 : z_co 89 21 = (.aaload, 1, 0, 0, []) := rfl
theorem zr_89_22 : z_co 89 22 = (.iload_n 2, 1, 0, 0, []) := rfl
theorem zr_89_23 : z_co 89 23 = (.iaload, 1, 0, 0, []) := rfl
theorem zr_89_24 : z_co 89 24 = (.aload_n 0, 1, 0, 0, []) := rfl
theorem zr_89_25 : z_co 89 25 = (.getfield 11, 3, 10, 0, [143]) := rfl
theorem zr_89_28 : z_co 89 28 = (.iconst 0, 1, 0, 0, []) := rfl
theorem zr_89_29 : z_co 89 29 = (.aaload, 1, 0, 0, []) := rfl
theorem zr_89_30 : z_co 89 30 = (.iload_n 1, 1, 0, 0, []) := rfl
theorem zr_89_31 : z_co 89 31 = (.iaload, 1, 0, 0, []) := rfl
theorem zr_89_32 : z_co 89 32 = (.if_icmp .gt 7, 3, 0, 0, []) := rfl
theorem zr_89_35 : z_co 89 35 = (.iconst 1, 1, 0, 0, []) := rfl
theorem zr_89_36 : z_co 89 36 = (.goto 4, 3, 0, 0, []) := rfl
theorem zr_89_39 : z_co 89 39 = (.iconst 0, 1, 0, 0, []) := rfl
theorem zr_89_40 : z_co 89 40 = (.ireturn, 1, 0, 0, []) := rfl
theorem zr_90_0 : z_co 90 0 = (.iload_n 1, 1, 0, 0, []) := rfl
theorem zr_90_1 : z_co 90 1 = (.ifCond .lt 16, 3, 0, 0, []) := rfl
theorem zr_90_4 : z_co 90 4 = (.iload_n 1, 1, 0, 0, []) := rfl
theorem zr_90_5 : z_co 90 5 = (.aload_n 0, 1, 0, 0, []) := rfl
theorem zr_90_6 : z_co 90 6 = (.getfield 64, 3, 10, 12, [180]) := rfl
theorem zr_90_9 : z_co 90 9 = (.iadd, 1, 0, 0, []) := rfl
theorem zr_90_10 : z_co 90 10 = (.aload_n 0, 1, 0, 0, []) := rfl
theorem zr_90_11 : z_co 90 11 = (.getfield 52, 3, 10, 7, [164]) := rfl
theorem zr_90_14 : z_co 90 14 = (.if_icmp .le 5, 3, 0, 0, []) := rfl
theorem zr_90_17 : z_co 90 17 = (.iconst 0, 1, 0, 0, []) := rfl
theorem zr_90_18 : z_co 90 18 = (.ireturn, 1, 0, 0, []) := rfl
theorem zr_90_19 : z_co 90 19 = (.iconst 0, 1, 0, 0, []) := rfl
theorem zr_90_20 : z_co 90 20 = (.istore_n 3, 1, 0, 0, []) := rfl
theorem zr_90_21 : z_co 90 21 = (.iload_n 3, 1, 0, 0, []) := rfl
theorem zr_90_22 : z_co 90 22 = (.aload_n 0, 1, 0, 0, []) := rfl
theorem zr_90_23 : z_co 90 23 = (.getfield 64, 3, 10, 12, [180]) := rfl
theorem zr_90_26 : z_co 90 26 = (.if_icmp .ge 35, 3, 0, 0, []) := rfl
theorem zr_90_29 : z_co 90 29 = (.aload_n 0, 1, 0, 0, []) := rfl
theorem zr_90_30 : z_co 90 30 = (.getfield 11, 3, 10, 0, [143]) := rfl
theorem zr_90_33 : z_co 90 33 = (.iconst 0, 1, 0, 0, []) := rfl
theorem zr_90_34 : z_co 90 34 = (.aaload, 1, 0, 0, []) := rfl
theorem zr_90_35 : z_co 90 35 = (.iload_n 1, 1, 0, 0, []) := rfl
theorem zr_90_36 : z_co 90 36 = (.iload_n 3, 1, 0, 0, []) := rfl
theorem zr_90_37 : z_co 90 37 = (.iadd, 1, 0, 0, []) := rfl
theorem zr_90_38 : z_co 90 38 = (.iaload, 1, 0, 0, []) := rfl
theorem zr_90_39 : z_co 90 39 = (.aload_n 0, 1, 0, 0, []) := rfl
theorem zr_90_40 : z_co 90 40 = (.getfield 32, 3, 10, 5, [160]) := rfl
theorem zr_90_43 : z_co 90 43 = (.iload_n 3, 1, 0, 0, []) := rfl
theorem zr_90_44 : z_co 90 44 = (.iaload, 1, 0, 0, []) := rfl
theorem zr_90_45 : z_co 90 45 = (.isub, 1, 0, 0, []) := rfl
theorem zr_90_46 : z_co 90 46 = (.invokestatic 88, 3, 259, 0, [1118, 856]) := rfl
theorem zr_90_49 : z_co 90 49 = (.iload_n 2, 1, 0, 0, []) := rfl
theorem zr_90_50 : z_co 90 50 = (.if_icmp .le 5, 3, 0, 0, []) := rfl
theorem zr_90_53 : z_co 90 53 = (.iconst 0, 1, 0, 0, []) := rfl
theorem zr_90_54 : z_co 90 54 = (.ireturn, 1, 0, 0, []) := rfl
theorem zr_90_55 : z_co 90 55 = (.iinc 3 1, 3, 0, 0, []) := rfl
theorem zr_90_58 : z_co 90 58 = (.goto (-37), 3, 0, 0, []) := rfl
theorem zr_90_61 : z_co 90 61 = (.iconst 1, 1, 0, 0, []) := rfl
theorem zr_90_62 : z_co 90 62 = (.ireturn, 1, 0, 0, []) := rfl
theorem zr_91_0 : z_co 91 0 = (.aload_n 0, 1, 0, 0, []) := rfl
theorem zr_91_1 : z_co 91 1 = (.invokespecial 3, 3, 1000, 0, [130, 131, 132]) := rfl
theorem zr_91_4 : z_co 91 4 = (.aload_n 0, 1, 0, 0, []) := rfl
theorem zr_91_5 : z_co 91 5 = (.new 9, 3, 10, 0, [133, 134, 105]) := rfl
theorem zr_91_8 : z_co 91 8 = (.dup, 1, 0, 0, []) := rfl
theorem zr_91_9 : z_co 91 9 = (.invokespecial 11, 3, 72, 1, [135, 136]) := rfl
theorem zr_91_12 : z_co 91 12 = (.putfield 12, 3, 11, 0, [440]) := rfl
theorem zr_91_15 : z_co 91 15 = (.aload_n 0, 1, 0, 0, []) := rfl
theorem zr_91_16 : z_co 91 16 = (.iconst 2, 1, 0, 0, []) := rfl
theorem zr_91_17 : z_co 91 17 = (.anewarray 9, 3, 107, 0, [133, 210]) := rfl
theorem zr_91_20 : z_co 91 20 = (.dup, 1, 0, 0, []) := rfl
theorem zr_91_21 : z_co 91 21 = (.iconst 0, 1, 0, 0, []) := rfl
theorem zr_91_22 : z_co 91 22 = (.new 9, 3, 10, 0, [133, 134, 105]) := rfl
theorem zr_91_25 : z_co 91 25 = (.dup, 1, 0, 0, []) := rfl
theorem zr_91_26 : z_co 91 26 = (.invokespecial 11, 3, 72, 1, [135, 136]) := rfl
theorem zr_91_29 : z_co 91 29 = (.aastore, 1, 0, 0, []) := rfl
theorem zr_91_30 : z_co 91 30 = (.dup, 1, 0, 0, []) := rfl
theorem zr_91_31 : z_co 91 31 = (.iconst 1, 1, 0, 0, []) := rfl
theorem zr_91_32 : z_co 91 32 = (.new 9, 3, 10, 0, [133, 134, 105]) := rfl
theorem zr_91_35 : z_co 91 35 = (.dup, 1, 0, 0, []) := rfl
theorem zr_91_36 : z_co 91 36 = (.invokespecial 11, 3, 72, 1, [135, 136]) := rfl
theorem zr_91_39 : z_co 91 39 = (.aastore, 1, 0, 0, []) := rfl
theorem zr_91_40 : z_co 91 40 = (.putfield 16, 3, 11, 1, [441]) := rfl
theorem zr_91_43 : z_co 91 43 = (.aload_n 0, 1, 0, 0, []) := rfl
theorem zr_91_44 : z_co 91 44 = (.iconst 2, 1, 0, 0, []) := rfl
theorem zr_91_45 : z_co 91 45 = (.newarray .boolean, 2, 0, 0, []) := rfl
theorem zr_91_47 : z_co 91 47 = (.putfield 20, 3, 11, 2, [442]) := rfl
theorem zr_91_50 : z_co 91 50 = (.aload_n 0, 1, 0, 0, []) := rfl
theorem zr_91_51 : z_co 91 51 = (.new 24, 3, 9, 0, [211, 212, 106]) := rfl
theorem zr_91_54 : z_co 91 54 = (.dup, 1, 0, 0, []) := rfl
theorem zr_91_55 : z_co 91 55 = (.invokespecial 26, 3, 70, 1, [213, 214]) := rfl
theorem zr_91_58 : z_co 91 58 = (.putfield 27, 3, 11, 3, [443]) := rfl
theorem zr_91_61 : z_co 91 61 = (.aload_n 0, 1, 0, 0, []) := rfl
theorem zr_91_62 : z_co 91 62 = (.new 31, 3, 5, 0, [229, 230, 107]) := rfl
theorem zr_91_65 : z_co 91 65 = (.dup, 1, 0, 0, []) := rfl
theorem zr_91_66 : z_co 91 66 = (.invokespecial 33, 3, 24, 1, [231, 232]) := rfl
theorem zr_91_69 : z_co 91 69 = (.putfield 34, 3, 11, 4, [444]) := rfl
theorem zr_91_72 : z_co 91 72 = (.aload_n 0, 1, 0, 0, []) := rfl
theorem zr_91_73 : z_co 91 73 = (.new 38, 3, 3, 0, [267, 268, 108]) := rfl
theorem zr_91_76 : z_co 91 76 = (.dup, 1, 0, 0, []) := rfl
theorem zr_91_77 : z_co 91 77 = (.invokespecial 40, 3, 15, 1, [269, 270]) := rfl
theorem zr_91_80 : z_co 91 80 = (.putfield 41, 3, 11, 5, [445]) := rfl
theorem zr_91_83 : z_co 91 83 = (.aload_n 0, 1, 0, 0, []) := rfl
theorem zr_91_84 : z_co 91 84 = (.new 45, 3, 7, 0, [296, 297, 109]) := rfl
theorem zr_91_87 : z_co 91 87 = (.dup, 1, 0, 0, []) := rfl
theorem zr_91_88 : z_co 91 88 = (.invokespecial 47, 3, 47, 1, [298, 299]) := rfl
theorem zr_91_91 : z_co 91 91 = (.putfield 48, 3, 11, 6, [446]) := rfl
theorem zr_91_94 : z_co 91 94 = (.aload_n 0, 1, 0, 0, []) := rfl
theorem zr_91_95 : z_co 91 95 = (.new 52, 3, 1, 0, [340, 341, 110]) := rfl
theorem zr_91_98 : z_co 91 98 = (.dup, 1, 0, 0, []) := rfl
theorem zr_91_99 : z_co 91 99 = (.invokespecial 54, 3, 7, 1, [342, 343]) := rfl
theorem zr_91_102 : z_co 91 102 = (.putfield 55, 3, 11, 7, [447]) := rfl
theorem zr_91_105 : z_co 91 105 = (.aload_n 0, 1, 0, 0, []) := rfl
theorem zr_91_106 : z_co 91 106 = (.new 59, 3, 6, 0, [359, 360, 111]) := rfl
theorem zr_91_109 : z_co 91 109 = (.dup, 1, 0, 0, []) := rfl
theorem zr_91_110 : z_co 91 110 = (.invokespecial 61, 3, 44, 1, [361, 362]) := rfl
theorem zr_91_113 : z_co 91 113 = (.putfield 62, 3, 11, 8, [448]) := rfl
theorem zr_91_116 : z_co 91 116 = (.aload_n 0, 1, 0, 0, []) := rfl
theorem zr_91_117 : z_co 91 117 = (.new 66, 3, 0, 0, [398, 399, 113]) := rfl
theorem zr_91_120 : z_co 91 120 = (.dup, 1, 0, 0, []) := rfl
theorem zr_91_121 : z_co 91 121 = (.invokespecial 68, 3, 1, 1, [400, 401]) := rfl
theorem zr_91_124 : z_co 91 124 = (.putfield 69, 3, 11, 9, [449]) := rfl
theorem zr_91_127 : z_co 91 127 = (.aload_n 0, 1, 0, 0, []) := rfl
theorem zr_91_128 : z_co 91 128 = (.new 73, 3, 2, 0, [421, 422, 114]) := rfl
theorem zr_91_131 : z_co 91 131 = (.dup, 1, 0, 0, []) := rfl
theorem zr_91_132 : z_co 91 132 = (.invokespecial 75, 3, 11, 1, [423, 424]) := rfl
theorem zr_91_135 : z_co 91 135 = (.putfield 76, 3, 11, 10, [450]) := rfl
theorem zr_91_138 : z_co 91 138 = (.aload_n 0, 1, 0, 0, []) := rfl
theorem zr_91_139 : z_co 91 139 = (.bipush 12, 2, 0, 0, []) := rfl
theorem zr_91_141 : z_co 91 141 = (.newarray .int, 2, 0, 0, []) := rfl
theorem zr_91_143 : z_co 91 143 = (.putfield 80, 3, 11, 11, [451]) := rfl
theorem zr_91_146 : z_co 91 146 = (.aload_n 0, 1, 0, 0, []) := rfl
theorem zr_91_147 : z_co 91 147 = (.bipush 7, 2, 0, 0, []) := rfl
theorem zr_91_149 : z_co 91 149 = (.newarray .int, 2, 0, 0, []) := rfl
theorem zr_91_151 : z_co 91 151 = (.putfield 84, 3, 11, 12, [452]) := rfl
theorem zr_91_154 : z_co 91 154 = (.aload_n 0, 1, 0, 0, []) := rfl
theorem zr_91_155 : z_co 91 155 = (.iconst (-1), 1, 0, 0, []) := rfl
theorem zr_91_156 : z_co 91 156 = (.putfield 87, 3, 11, 14, [454]) := rfl
theorem zr_91_159 : z_co 91 159 = (.return_, 1, 0, 0, []) := rfl
theorem zr_92_0 : z_co 92 0 = (.iconst 0, 1, 0, 0, []) := rfl
theorem zr_92_1 : z_co 92 1 = (.iload_n 1, 1, 0, 0, []) := rfl
theorem zr_92_2 : z_co 92 2 = (.invokestatic 91, 3, 134, 0, [493, 494]) := rfl
theorem zr_92_5 : z_co 92 5 = (.ifCond .eq 11, 3, 0, 0, []) := rfl
theorem zr_92_8 : z_co 92 8 = (.iconst 1, 1, 0, 0, []) := rfl
theorem zr_92_9 : z_co 92 9 = (.iload_n 2, 1, 0, 0, []) := rfl
theorem zr_92_10 : z_co 92 10 = (.invokestatic 91, 3, 134, 0, [493, 494]) := rfl
theorem zr_92_13 : z_co 92 13 = (.ifCond .ne 9, 3, 0, 0, []) := rfl
theorem zr_92_16 : z_co 92 16 = (.aload_n 0, 1, 0, 0, []) := rfl
theorem zr_92_17 : z_co 92 17 = (.iconst (-1), 1, 0, 0, []) := rfl
theorem zr_92_18 : z_co 92 18 = (.invokevirtual 95, 3, 130, 0, [503, 505, 0]) := rfl
theorem zr_92_21 : z_co 92 21 = (.ireturn, 1, 0, 0, []) := rfl
theorem zr_92_22 : z_co 92 22 = (.aload_n 0, 1, 0, 0, []) := rfl
theorem zr_92_23 : z_co 92 23 = (.aload_n 0, 1, 0, 0, []) := rfl
theorem zr_92_24 : z_co 92 24 = (.getfield 12, 3, 11, 0, [440]) := rfl
theorem zr_92_27 : z_co 92 27 = (.iload_n 1, 1, 0, 0, []) := rfl
theorem zr_92_28 : z_co 92 28 = (.iload_n 2, 1, 0, 0, []) := rfl
theorem zr_92_29 : z_co 92 29 = (.iconst 0, 1, 0, 0, []) := rfl
theorem zr_92_30 : z_co 92 30 = (.invokevirtual 99, 3, 77, 0, [507, 508, 509]) := rfl
theorem zr_92_33 : z_co 92 33 = (.invokevirtual 103, 3, 132, 0, [511, 513, 1]) := rfl
theorem zr_92_36 : z_co 92 36 = (.ireturn, 1, 0, 0, []) := rfl
theorem zr_93_0 : z_co 93 0 = (.iload_n 2, 1, 0, 0, []) := rfl
theorem zr_93_1 : z_co 93 1 = (.iload_n 3, 1, 0, 0, []) := rfl
theorem zr_93_2 : z_co 93 2 = (.invokestatic 91, 3, 134, 0, [493, 494]) := rfl
theorem zr_93_5 : z_co 93 5 = (.ifCond .ne 9, 3, 0, 0, []) := rfl
theorem zr_93_8 : z_co 93 8 = (.aload_n 0, 1, 0, 0, []) := rfl
theorem zr_93_9 : z_co 93 9 = (.iconst (-1), 1, 0, 0, []) := rfl
theorem zr_93_10 : z_co 93 10 = (.invokevirtual 95, 3, 130, 0, [503, 505, 0]) := rfl
theorem zr_93_13 : z_co 93 13 = (.ireturn, 1, 0, 0, []) := rfl
theorem zr_93_14 : z_co 93 14 = (.aload_n 0, 1, 0, 0, []) := rfl
theorem zr_93_15 : z_co 93 15 = (.getfield 12, 3, 11, 0, [440]) := rfl
theorem zr_93_18 : z_co 93 18 = (.iload_n 1, 1, 0, 0, []) := rfl
theorem zr_93_19 : z_co 93 19 = (.invokevirtual 106, 3, 75, 0, [523, 524, 525]) := rfl
theorem zr_93_22 : z_co 93 22 = (.ifCond .ne 10, 3, 0, 0, []) := rfl
theorem zr_93_25 : z_co 93 25 = (.aload_n 0, 1, 0, 0, []) := rfl
theorem zr_93_26 : z_co 93 26 = (.bipush (-2), 2, 0, 0, []) := rfl
theorem zr_93_28 : z_co 93 28 = (.invokevirtual 95, 3, 130, 0, [503, 505, 0]) := rfl
theorem zr_93_31 : z_co 93 31 = (.ireturn, 1, 0, 0, []) := rfl
theorem zr_93_32 : z_co 93 32 = (.aload_n 0, 1, 0, 0, []) := rfl
theorem zr_93_33 : z_co 93 33 = (.aload_n 0, 1, 0, 0, []) := rfl
theorem zr_93_34 : z_co 93 34 = (.getfield 12, 3, 11, 0, [440]) := rfl
theorem zr_93_37 : z_co 93 37 = (.getfield 110, 3, 10, 0, [147]) := rfl
theorem zr_93_40 : z_co 93 40 = (.iload_n 2, 1, 0, 0, []) := rfl
theorem zr_93_41 : z_co 93 41 = (.aaload, 1, 0, 0, []) := rfl
theorem zr_93_42 : z_co 93 42 = (.iload_n 1, 1, 0, 0, []) := rfl
theorem zr_93_43 : z_co 93 43 = (.iload_n 3, 1, 0, 0, []) := rfl
theorem zr_93_44 : z_co 93 44 = (.invokestatic 114, 3, 136, 0, [528, 529]) := rfl
theorem zr_93_47 : z_co 93 47 = (.invokevirtual 118, 3, 131, 0, [515, 517, 2]) := rfl
theorem zr_93_50 : z_co 93 50 = (.ireturn, 1, 0, 0, []) := rfl
theorem zr_94_0 : z_co 94 0 = (.aload_n 0, 1, 0, 0, []) := rfl
theorem zr_94_1 : z_co 94 1 = (.getfield 12, 3, 11, 0, [440]) := rfl
theorem zr_94_4 : z_co 94 4 = (.iload_n 1, 1, 0, 0, []) := rfl
theorem zr_94_5 : z_co 94 5 = (.invokevirtual 106, 3, 75, 0, [523, 524, 525]) := rfl
theorem zr_94_8 : z_co 94 8 = (.ifCond .eq 12, 3, 0, 0, []) := rfl
theorem zr_94_11 : z_co 94 11 = (.iload_n 2, 1, 0, 0, []) := rfl
theorem zr_94_12 : z_co 94 12 = (.iconst 0, 1, 0, 0, []) := rfl
theorem zr_94_13 : z_co 94 13 = (.iconst 4, 1, 0, 0, []) := rfl
theorem zr_94_14 : z_co 94 14 = (.invokestatic 121, 3, 133, 0, [496, 497]) := rfl
theorem zr_94_17 : z_co 94 17 = (.ifCond .ne 5, 3, 0, 0, []) := rfl
theorem zr_94_20 : z_co 94 20 = (.iconst (-1), 1, 0, 0, []) := rfl
theorem zr_94_21 : z_co 94 21 = (.ireturn, 1, 0, 0, []) := rfl
theorem zr_94_22 : z_co 94 22 = (.iload_n 2, 1, 0, 0, []) := rfl
theorem zr_94_23 : z_co 94 23 = (.iconst 4, 1, 0, 0, []) := rfl
theorem zr_94_24 : z_co 94 24 = (.if_icmp .ne 14, 3, 0, 0, []) := rfl
theorem zr_94_27 : z_co 94 27 = (.aload_n 0, 1, 0, 0, []) := rfl
theorem zr_94_28 : z_co 94 28 = (.getfield 12, 3, 11, 0, [440]) := rfl
theorem zr_94_31 : z_co 94 31 = (.iload_n 1, 1, 0, 0, []) := rfl
theorem zr_94_32 : z_co 94 32 = (.invokevirtual 125, 3, 83, 0, [535, 536, 537]) := rfl
theorem zr_94_35 : z_co 94 35 = (.goto 14, 3, 0, 0, []) := rfl
theorem zr_94_38 : z_co 94 38 = (.aload_n 0, 1, 0, 0, []) := rfl
theorem zr_94_39 : z_co 94 39 = (.getfield 12, 3, 11, 0, [440]) := rfl
theorem zr_94_42 : z_co 94 42 = (.getfield 110, 3, 10, 0, [147]) := rfl
theorem zr_94_45 : z_co 94 45 = (.iload_n 2, 1, 0, 0, []) := rfl
theorem zr_94_46 : z_co 94 46 = (.aaload, 1, 0, 0, []) := rfl
theorem zr_94_47 : z_co 94 47 = (.iload_n 1, 1, 0, 0, []) := rfl
theorem zr_94_48 : z_co 94 48 = (.iaload, 1, 0, 0, []) := rfl
theorem zr_94_49 : z_co 94 49 = (.ireturn, 1, 0, 0, []) := rfl
theorem zr_95_0 : z_co 95 0 = (.iconst 0, 1, 0, 0, []) := rfl
theorem zr_95_1 : z_co 95 1 = (.iload_n 1, 1, 0, 0, []) := rfl
theorem zr_95_2 : z_co 95 2 = (.invokestatic 128, 3, 135, 0, [543, 544]) := rfl
theorem zr_95_5 : z_co 95 5 = (.ifCond .eq 11, 3, 0, 0, []) := rfl
theorem zr_95_8 : z_co 95 8 = (.iconst 1, 1, 0, 0, []) := rfl
theorem zr_95_9 : z_co 95 9 = (.iload_n 2, 1, 0, 0, []) := rfl
theorem zr_95_10 : z_co 95 10 = (.invokestatic 128, 3, 135, 0, [543, 544]) := rfl
theorem zr_95_13 : z_co 95 13 = (.ifCond .ne 9, 3, 0, 0, []) := rfl
theorem zr_95_16 : z_co 95 16 = (.aload_n 0, 1, 0, 0, []) := rfl
theorem zr_95_17 : z_co 95 17 = (.iconst (-1), 1, 0, 0, []) := rfl
theorem zr_95_18 : z_co 95 18 = (.invokevirtual 95, 3, 130, 0, [503, 505, 0]) := rfl
theorem zr_95_21 : z_co 95 21 = (.ireturn, 1, 0, 0, []) := rfl
theorem zr_95_22 : z_co 95 22 = (.aload_n 0, 1, 0, 0, []) := rfl
theorem zr_95_23 : z_co 95 23 = (.aload_n 0, 1, 0, 0, []) := rfl
theorem zr_95_24 : z_co 95 24 = (.getfield 12, 3, 11, 0, [440]) := rfl
theorem zr_95_27 : z_co 95 27 = (.iload_n 1, 1, 0, 0, []) := rfl
theorem zr_95_28 : z_co 95 28 = (.iload_n 2, 1, 0, 0, []) := rfl
theorem zr_95_29 : z_co 95 29 = (.invokevirtual 131, 3, 78, 0, [548, 549, 550]) := rfl
theorem zr_95_32 : z_co 95 32 = (.invokevirtual 103, 3, 132, 0, [511, 513, 1]) := rfl
theorem zr_95_35 : z_co 95 35 = (.ireturn, 1, 0, 0, []) := rfl
theorem zr_96_0 : z_co 96 0 = (.iload_n 2, 1, 0, 0, []) := rfl
theorem zr_96_1 : z_co 96 1 = (.iload_n 3, 1, 0, 0, []) := rfl
theorem zr_96_2 : z_co 96 2 = (.invokestatic 128, 3, 135, 0, [543, 544]) := rfl
theorem zr_96_5 : z_co 96 5 = (.ifCond .ne 9, 3, 0, 0, []) := rfl
theorem zr_96_8 : z_co 96 8 = (.aload_n 0, 1, 0, 0, []) := rfl
theorem zr_96_9 : z_co 96 9 = (.iconst (-1), 1, 0, 0, []) := rfl
theorem zr_96_10 : z_co 96 10 = (.invokevirtual 95, 3, 130, 0, [503, 505, 0]) := rfl
theorem zr_96_13 : z_co 96 13 = (.ireturn, 1, 0, 0, []) := rfl
theorem zr_96_14 : z_co 96 14 = (.aload_n 0, 1, 0, 0, []) := rfl
theorem zr_96_15 : z_co 96 15 = (.getfield 12, 3, 11, 0, [440]) := rfl
theorem zr_96_18 : z_co 96 18 = (.iload_n 1, 1, 0, 0, []) := rfl
theorem zr_96_19 : z_co 96 19 = (.invokevirtual 135, 3, 76, 0, [556, 557, 558]) := rfl
theorem zr_96_22 : z_co 96 22 = (.ifCond .ne 10, 3, 0, 0, []) := rfl
theorem zr_96_25 : z_co 96 25 = (.aload_n 0, 1, 0, 0, []) := rfl
theorem zr_96_26 : z_co 96 26 = (.bipush (-2), 2, 0, 0, []) := rfl
theorem zr_96_28 : z_co 96 28 = (.invokevirtual 95, 3, 130, 0, [503, 505, 0]) := rfl
theorem zr_96_31 : z_co 96 31 = (.ireturn, 1, 0, 0, []) := rfl
theorem zr_96_32 : z_co 96 32 = (.aload_n 0, 1, 0, 0, []) := rfl
theorem zr_96_33 : z_co 96 33 = (.aload_n 0, 1, 0, 0, []) := rfl
theorem zr_96_34 : z_co 96 34 = (.getfield 12, 3, 11, 0, [440]) := rfl
theorem zr_96_37 : z_co 96 37 = (.getfield 138, 3, 10, 1, [151]) := rfl
theorem zr_96_40 : z_co 96 40 = (.iload_n 2, 1, 0, 0, []) := rfl
theorem zr_96_41 : z_co 96 41 = (.aaload, 1, 0, 0, []) := rfl
theorem zr_96_42 : z_co 96 42 = (.iload_n 1, 1, 0, 0, []) := rfl
theorem zr_96_43 : z_co 96 43 = (.iload_n 3, 1, 0, 0, []) := rfl
theorem zr_96_44 : z_co 96 44 = (.invokestatic 114, 3, 136, 0, [528, 529]) := rfl
theorem zr_96_47 : z_co 96 47 = (.invokevirtual 118, 3, 131, 0, [515, 517, 2]) := rfl
theorem zr_96_50 : z_co 96 50 = (.ireturn, 1, 0, 0, []) := rfl
theorem zr_97_0 : z_co 97 0 = (.iload_n 1, 1, 0, 0, []) := rfl
theorem zr_97_1 : z_co 97 1 = (.iconst 0, 1, 0, 0, []) := rfl
theorem zr_97_2 : z_co 97 2 = (.iconst 1, 1, 0, 0, []) := rfl
theorem zr_97_3 : z_co 97 3 = (.invokestatic 121, 3, 133, 0, [496, 497]) := rfl
theorem zr_97_6 : z_co 97 6 = (.ifCond .eq 16, 3, 0, 0, []) := rfl
theorem zr_97_9 : z_co 97 9 = (.iload_n 2, 1, 0, 0, []) := rfl
theorem zr_97_10 : z_co 97 10 = (.iconst 0, 1, 0, 0, []) := rfl
theorem zr_97_11 : z_co 97 11 = (.getstatic 141, 3, 5, 0, [564]) := rfl
theorem zr_97_14 : z_co 97 14 = (.iload_n 1, 1, 0, 0, []) := rfl
theorem zr_97_15 : z_co 97 15 = (.iaload, 1, 0, 0, []) := rfl
theorem zr_97_16 : z_co 97 16 = (.invokestatic 121, 3, 133, 0, [496, 497]) := rfl
theorem zr_97_19 : z_co 97 19 = (.ifCond .ne 9, 3, 0, 0, []) := rfl
theorem zr_97_22 : z_co 97 22 = (.aload_n 0, 1, 0, 0, []) := rfl
theorem zr_97_23 : z_co 97 23 = (.iconst (-1), 1, 0, 0, []) := rfl
theorem zr_97_24 : z_co 97 24 = (.invokevirtual 95, 3, 130, 0, [503, 505, 0]) := rfl
theorem zr_97_27 : z_co 97 27 = (.ireturn, 1, 0, 0, []) := rfl
theorem zr_97_28 : z_co 97 28 = (.aload_n 0, 1, 0, 0, []) := rfl
theorem zr_97_29 : z_co 97 29 = (.aload_n 0, 1, 0, 0, []) := rfl
theorem zr_97_30 : z_co 97 30 = (.getfield 12, 3, 11, 0, [440]) := rfl
theorem zr_97_33 : z_co 97 33 = (.getfield 144, 3, 10, 2, [155]) := rfl
theorem zr_97_36 : z_co 97 36 = (.iload_n 1, 1, 0, 0, []) := rfl
theorem zr_97_37 : z_co 97 37 = (.iload_n 2, 1, 0, 0, []) := rfl
theorem zr_97_38 : z_co 97 38 = (.invokestatic 114, 3, 136, 0, [528, 529]) := rfl
theorem zr_97_41 : z_co 97 41 = (.invokevirtual 118, 3, 131, 0, [515, 517, 2]) := rfl
theorem zr_97_44 : z_co 97 44 = (.ireturn, 1, 0, 0, []) := rfl
theorem zr_98_0 : z_co 98 0 = (.aload_n 0, 1, 0, 0, []) := rfl
theorem zr_98_1 : z_co 98 1 = (.getfield 27, 3, 11, 3, [443]) := rfl
theorem zr_98_4 : z_co 98 4 = (.getfield 147, 3, 9, 1, [222]) := rfl
theorem zr_98_7 : z_co 98 7 = (.bipush 20, 2, 0, 0, []) := rfl
theorem zr_98_9 : z_co 98 9 = (.iadd, 1, 0, 0, []) := rfl
theorem zr_98_10 : z_co 98 10 = (.sipush 400, 3, 0, 0, []) := rfl
theorem zr_98_13 : z_co 98 13 = (.if_icmp .le 5, 3, 0, 0, []) := rfl
theorem zr_98_16 : z_co 98 16 = (.iconst (-1), 1, 0, 0, []) := rfl
theorem zr_98_17 : z_co 98 17 = (.ireturn, 1, 0, 0, []) := rfl
theorem zr_98_18 : z_co 98 18 = (.aload_n 0, 1, 0, 0, []) := rfl
theorem zr_98_19 : z_co 98 19 = (.getfield 27, 3, 11, 3, [443]) := rfl
theorem zr_98_22 : z_co 98 22 = (.iload_n 1, 1, 0, 0, []) := rfl
theorem zr_98_23 : z_co 98 23 = (.invokevirtual 150, 3, 71, 0, [570, 571, 572]) := rfl
theorem zr_98_26 : z_co 98 26 = (.aload_n 0, 1, 0, 0, []) := rfl
theorem zr_98_27 : z_co 98 27 = (.getfield 27, 3, 11, 3, [443]) := rfl
theorem zr_98_30 : z_co 98 30 = (.iload_n 2, 1, 0, 0, []) := rfl
theorem zr_98_31 : z_co 98 31 = (.invokevirtual 150, 3, 71, 0, [570, 571, 572]) := rfl
theorem zr_98_34 : z_co 98 34 = (.aload_n 0, 1, 0, 0, []) := rfl
theorem zr_98_35 : z_co 98 35 = (.getfield 27, 3, 11, 3, [443]) := rfl
theorem zr_98_38 : z_co 98 38 = (.iload_n 3, 1, 0, 0, []) := rfl
theorem zr_98_39 : z_co 98 39 = (.invokevirtual 150, 3, 71, 0, [570, 571, 572]) := rfl
theorem zr_98_42 : z_co 98 42 = (.aload_n 0, 1, 0, 0, []) := rfl
theorem zr_98_43 : z_co 98 43 = (.getfield 27, 3, 11, 3, [443]) := rfl
theorem zr_98_46 : z_co 98 46 = (.iload 4, 2, 0, 0, []) := rfl
theorem zr_98_48 : z_co 98 48 = (.invokevirtual 150, 3, 71, 0, [570, 571, 572]) := rfl
theorem zr_98_51 : z_co 98 51 = (.aload_n 0, 1, 0, 0, []) := rfl
theorem zr_98_52 : z_co 98 52 = (.getfield 27, 3, 11, 3, [443]) := rfl
theorem zr_98_55 : z_co 98 55 = (.iload 5, 2, 0, 0, []) := rfl
theorem zr_98_57 : z_co 98 57 = (.invokevirtual 150, 3, 71, 0, [570, 571, 572]) := rfl
theorem zr_98_60 : z_co 98 60 = (.aload_n 0, 1, 0, 0, []) := rfl
theorem zr_98_61 : z_co 98 61 = (.getfield 27, 3, 11, 3, [443]) := rfl
theorem zr_98_64 : z_co 98 64 = (.getfield 147, 3, 9, 1, [222]) := rfl
theorem zr_98_67 : z_co 98 67 = (.ireturn, 1, 0, 0, []) := rfl
theorem zr_99_0 : z_co 99 0 = (.iload_n 1, 1, 0, 0, []) := rfl
theorem zr_99_1 : z_co 99 1 = (.iconst 0, 1, 0, 0, []) := rfl
theorem zr_99_2 : z_co 99 2 = (.aload_n 0, 1, 0, 0, []) := rfl
theorem zr_99_3 : z_co 99 3 = (.getfield 27, 3, 11, 3, [443]) := rfl
theorem zr_99_6 : z_co 99 6 = (.getfield 147, 3, 9, 1, [222]) := rfl
theorem zr_99_9 : z_co 99 9 = (.invokestatic 121, 3, 133, 0, [496, 497]) := rfl
theorem zr_99_12 : z_co 99 12 = (.ifCond .ne 5, 3, 0, 0, []) := rfl
theorem zr_99_15 : z_co 99 15 = (.iconst (-1), 1, 0, 0, []) := rfl
theorem zr_99_16 : z_co 99 16 = (.ireturn, 1, 0, 0, []) := rfl
theorem zr_99_17 : z_co 99 17 = (.aload_n 0, 1, 0, 0, []) := rfl
theorem zr_99_18 : z_co 99 18 = (.getfield 27, 3, 11, 3, [443]) := rfl
theorem zr_99_21 : z_co 99 21 = (.iload_n 1, 1, 0, 0, []) := rfl
theorem zr_99_22 : z_co 99 22 = (.putfield 147, 3, 9, 1, [222]) := rfl
theorem zr_99_25 : z_co 99 25 = (.iload_n 1, 1, 0, 0, []) := rfl
theorem zr_99_26 : z_co 99 26 = (.ireturn, 1, 0, 0, []) := rfl
theorem zr_100_0 : z_co 100 0 = (.aload_n 0, 1, 0, 0, []) := rfl
theorem zr_100_1 : z_co 100 1 = (.getfield 27, 3, 11, 3, [443]) := rfl
theorem zr_100_4 : z_co 100 4 = (.getfield 147, 3, 9, 1, [222]) := rfl
theorem zr_100_7 : z_co 100 7 = (.ifCond .ne 10, 3, 0, 0, []) := rfl
theorem zr_100_10 : z_co 100 10 = (.aload_n 0, 1, 0, 0, []) := rfl
theorem zr_100_11 : z_co 100 11 = (.bipush (-6), 2, 0, 0, []) := rfl
theorem zr_100_13 : z_co 100 13 = (.invokevirtual 95, 3, 130, 0, [503, 505, 0]) := rfl
theorem zr_100_16 : z_co 100 16 = (.ireturn, 1, 0, 0, []) := rfl
theorem zr_100_17 : z_co 100 17 = (.iconst 0, 1, 0, 0, []) := rfl
theorem zr_100_18 : z_co 100 18 = (.istore_n 1, 1, 0, 0, []) := rfl
theorem zr_100_19 : z_co 100 19 = (.aload_n 0, 1, 0, 0, []) := rfl
theorem zr_100_20 : z_co 100 20 = (.iconst 0, 1, 0, 0, []) := rfl
theorem zr_100_21 : z_co 100 21 = (.putfield 154, 3, 11, 13, [453]) := rfl
theorem zr_100_24 : z_co 100 24 = (.iconst 0, 1, 0, 0, []) := rfl
theorem zr_100_25 : z_co 100 25 = (.istore_n 2, 1, 0, 0, []) := rfl
theorem zr_100_26 : z_co 100 26 = (.iload_n 2, 1, 0, 0, []) := rfl
theorem zr_100_27 : z_co 100 27 = (.aload_n 0, 1, 0, 0, []) := rfl
theorem zr_100_28 : z_co 100 28 = (.getfield 27, 3, 11, 3, [443]) := rfl
theorem zr_100_31 : z_co 100 31 = (.getfield 147, 3, 9, 1, [222]) := rfl
theorem zr_100_34 : z_co 100 34 = (.if_icmp .ge 33, 3, 0, 0, []) := rfl
theorem zr_100_37 : z_co 100 37 = (.aload_n 0, 1, 0, 0, []) := rfl
theorem zr_100_38 : z_co 100 38 = (.iload_n 2, 1, 0, 0, []) := rfl
theorem zr_100_39 : z_co 100 39 = (.invokevirtual 157, 3, 137, 0, [582, 584, 3]) := rfl
theorem zr_100_42 : z_co 100 42 = (.ifCond .eq 9, 3, 0, 0, []) := rfl
theorem zr_100_45 : z_co 100 45 = (.iinc 1 1, 3, 0, 0, []) := rfl
theorem zr_100_48 : z_co 100 48 = (.goto 13, 3, 0, 0, []) := rfl
theorem zr_100_51 : z_co 100 51 = (.aload_n 0, 1, 0, 0, []) := rfl
theorem zr_100_52 : z_co 100 52 = (.dup, 1, 0, 0, []) := rfl
theorem zr_100_53 : z_co 100 53 = (.getfield 154, 3, 11, 13, [453]) := rfl
theorem zr_100_56 : z_co 100 56 = (.iconst 1, 1, 0, 0, []) := rfl
theorem zr_100_57 : z_co 100 57 = (.iadd, 1, 0, 0, []) := rfl
theorem zr_100_58 : z_co 100 58 = (.putfield 154, 3, 11, 13, [453]) := rfl
theorem zr_100_61 : z_co 100 61 = (.iinc 2 3, 3, 0, 0, []) := rfl
theorem zr_100_64 : z_co 100 64 = (.goto (-38), 3, 0, 0, []) := rfl
theorem zr_100_67 : z_co 100 67 = (.aload_n 0, 1, 0, 0, []) := rfl
theorem zr_100_68 : z_co 100 68 = (.getfield 27, 3, 11, 3, [443]) := rfl
theorem zr_100_71 : z_co 100 71 = (.iconst 0, 1, 0, 0, []) := rfl
theorem zr_100_72 : z_co 100 72 = (.putfield 147, 3, 9, 1, [222]) := rfl
theorem zr_100_75 : z_co 100 75 = (.aload_n 0, 1, 0, 0, []) := rfl
theorem zr_100_76 : z_co 100 76 = (.iload_n 1, 1, 0, 0, []) := rfl
theorem zr_100_77 : z_co 100 77 = (.invokevirtual 118, 3, 131, 0, [515, 517, 2]) := rfl
theorem zr_100_80 : z_co 100 80 = (.ireturn, 1, 0, 0, []) := rfl
theorem zr_101_0 : z_co 101 0 = (.aload_n 0, 1, 0, 0, []) := rfl
theorem zr_101_1 : z_co 101 1 = (.getfield 154, 3, 11, 13, [453]) := rfl
theorem zr_101_4 : z_co 101 4 = (.ireturn, 1, 0, 0, []) := rfl
theorem zr_102_0 : z_co 102 0 = (.aload_n 0, 1, 0, 0, []) := rfl
theorem zr_102_1 : z_co 102 1 = (.getfield 12, 3, 11, 0, [440]) := rfl
theorem zr_102_4 : z_co 102 4 = (.getfield 160, 3, 10, 9, [173]) := rfl
theorem zr_102_7 : z_co 102 7 = (.bipush 6, 2, 0, 0, []) := rfl
theorem zr_102_9 : z_co 102 9 = (.if_icmp .lt 18, 3, 0, 0, []) := rfl
theorem zr_102_12 : z_co 102 12 = (.aload_n 0, 1, 0, 0, []) := rfl
theorem zr_102_13 : z_co 102 13 = (.getfield 27, 3, 11, 3, [443]) := rfl
theorem zr_102_16 : z_co 102 16 = (.iconst 0, 1, 0, 0, []) := rfl
theorem zr_102_17 : z_co 102 17 = (.putfield 147, 3, 9, 1, [222]) := rfl
theorem zr_102_20 : z_co 102 20 = (.aload_n 0, 1, 0, 0, []) := rfl
theorem zr_102_21 : z_co 102 21 = (.bipush (-5), 2, 0, 0, []) := rfl
theorem zr_102_23 : z_co 102 23 = (.invokevirtual 95, 3, 130, 0, [503, 505, 0]) := rfl
theorem zr_102_26 : z_co 102 26 = (.ireturn, 1, 0, 0, []) := rfl
theorem zr_102_27 : z_co 102 27 = (.aload_n 0, 1, 0, 0, []) := rfl
theorem zr_102_28 : z_co 102 28 = (.getfield 34, 3, 11, 4, [444]) := rfl
theorem zr_102_31 : z_co 102 31 = (.aload_n 0, 1, 0, 0, []) := rfl
theorem zr_102_32 : z_co 102 32 = (.getfield 27, 3, 11, 3, [443]) := rfl
theorem zr_102_35 : z_co 102 35 = (.invokevirtual 163, 3, 25, 0, [594, 595, 596]) := rfl
theorem zr_102_38 : z_co 102 38 = (.astore_n 1, 1, 0, 0, []) := rfl
theorem zr_102_39 : z_co 102 39 = (.aload_n 0, 1, 0, 0, []) := rfl
theorem zr_102_40 : z_co 102 40 = (.aload_n 0, 1, 0, 0, []) := rfl
theorem zr_102_41 : z_co 102 41 = (.getfield 34, 3, 11, 4, [444]) := rfl
theorem zr_102_44 : z_co 102 44 = (.getfield 167, 3, 5, 9, [245]) := rfl
theorem zr_102_47 : z_co 102 47 = (.putfield 87, 3, 11, 14, [454]) := rfl
theorem zr_102_50 : z_co 102 50 = (.aload_n 0, 1, 0, 0, []) := rfl
theorem zr_102_51 : z_co 102 51 = (.getfield 27, 3, 11, 3, [443]) := rfl
theorem zr_102_54 : z_co 102 54 = (.iconst 0, 1, 0, 0, []) := rfl
theorem zr_102_55 : z_co 102 55 = (.putfield 147, 3, 9, 1, [222]) := rfl
theorem zr_102_58 : z_co 102 58 = (.aload_n 1, 1, 0, 0, []) := rfl
theorem zr_102_59 : z_co 102 59 = (.ifnonnull 10, 3, 0, 0, []) := rfl
theorem zr_102_62 : z_co 102 62 = (.aload_n 0, 1, 0, 0, []) := rfl
theorem zr_102_63 : z_co 102 63 = (.bipush (-6), 2, 0, 0, []) := rfl
theorem zr_102_65 : z_co 102 65 = (.invokevirtual 95, 3, 130, 0, [503, 505, 0]) := rfl
theorem zr_102_68 : z_co 102 68 = (.ireturn, 1, 0, 0, []) := rfl
theorem zr_102_69 : z_co 102 69 = (.aload_n 0, 1, 0, 0, []) := rfl
theorem zr_102_70 : z_co 102 70 = (.aload_n 0, 1, 0, 0, []) := rfl
theorem zr_102_71 : z_co 102 71 = (.getfield 12, 3, 11, 0, [440]) := rfl
theorem zr_102_74 : z_co 102 74 = (.aload_n 1, 1, 0, 0, []) := rfl
theorem zr_102_75 : z_co 102 75 = (.invokevirtual 168, 3, 79, 0, [773, 774, 775]) := rfl
theorem zr_102_78 : z_co 102 78 = (.invokevirtual 103, 3, 132, 0, [511, 513, 1]) := rfl
theorem zr_102_81 : z_co 102 81 = (.ireturn, 1, 0, 0, []) := rfl
theorem zr_103_0 : z_co 103 0 = (.aload_n 0, 1, 0, 0, []) := rfl
theorem zr_103_1 : z_co 103 1 = (.getfield 87, 3, 11, 14, [454]) := rfl
theorem zr_103_4 : z_co 103 4 = (.ireturn, 1, 0, 0, []) := rfl
theorem zr_104_0 : z_co 104 0 = (.iload_n 1, 1, 0, 0, []) := rfl
theorem zr_104_1 : z_co 104 1 = (.iconst (-1), 1, 0, 0, []) := rfl
theorem zr_104_2 : z_co 104 2 = (.if_icmp .eq 27, 3, 0, 0, []) := rfl
theorem zr_104_5 : z_co 104 5 = (.iload_n 1, 1, 0, 0, []) := rfl
theorem zr_104_6 : z_co 104 6 = (.iconst 0, 1, 0, 0, []) := rfl
theorem zr_104_7 : z_co 104 7 = (.aload_n 0, 1, 0, 0, []) := rfl
theorem zr_104_8 : z_co 104 8 = (.getfield 12, 3, 11, 0, [440]) := rfl
theorem zr_104_11 : z_co 104 11 = (.getfield 160, 3, 10, 9, [173]) := rfl
theorem zr_104_14 : z_co 104 14 = (.iconst 1, 1, 0, 0, []) := rfl
theorem zr_104_15 : z_co 104 15 = (.isub, 1, 0, 0, []) := rfl
theorem zr_104_16 : z_co 104 16 = (.invokestatic 121, 3, 133, 0, [496, 497]) := rfl
theorem zr_104_19 : z_co 104 19 = (.ifCond .ne 10, 3, 0, 0, []) := rfl
theorem zr_104_22 : z_co 104 22 = (.aload_n 0, 1, 0, 0, []) := rfl
theorem zr_104_23 : z_co 104 23 = (.bipush (-2), 2, 0, 0, []) := rfl
theorem zr_104_25 : z_co 104 25 = (.invokevirtual 95, 3, 130, 0, [503, 505, 0]) := rfl
theorem zr_104_28 : z_co 104 28 = (.ireturn, 1, 0, 0, []) := rfl
theorem zr_104_29 : z_co 104 29 = (.aload_n 0, 1, 0, 0, []) := rfl
theorem zr_104_30 : z_co 104 30 = (.getfield 12, 3, 11, 0, [440]) := rfl
theorem zr_104_33 : z_co 104 33 = (.getfield 172, 3, 10, 10, [175]) := rfl
theorem zr_104_36 : z_co 104 36 = (.istore_n 2, 1, 0, 0, []) := rfl
theorem zr_104_37 : z_co 104 37 = (.aload_n 0, 1, 0, 0, []) := rfl
theorem zr_104_38 : z_co 104 38 = (.getfield 12, 3, 11, 0, [440]) := rfl
theorem zr_104_41 : z_co 104 41 = (.iload_n 1, 1, 0, 0, []) := rfl
theorem zr_104_42 : z_co 104 42 = (.putfield 172, 3, 10, 10, [175]) := rfl
theorem zr_104_45 : z_co 104 45 = (.aload_n 0, 1, 0, 0, []) := rfl
theorem zr_104_46 : z_co 104 46 = (.iload_n 2, 1, 0, 0, []) := rfl
theorem zr_104_47 : z_co 104 47 = (.invokevirtual 118, 3, 131, 0, [515, 517, 2]) := rfl
theorem zr_104_50 : z_co 104 50 = (.ireturn, 1, 0, 0, []) := rfl
theorem zr_105_0 : z_co 105 0 = (.aload_n 0, 1, 0, 0, []) := rfl
theorem zr_105_1 : z_co 105 1 = (.getfield 12, 3, 11, 0, [440]) := rfl
theorem zr_105_4 : z_co 105 4 = (.iload_n 1, 1, 0, 0, []) := rfl
theorem zr_105_5 : z_co 105 5 = (.invokevirtual 106, 3, 75, 0, [523, 524, 525]) := rfl
theorem zr_105_8 : z_co 105 8 = (.ifCond .eq 14, 3, 0, 0, []) := rfl
theorem zr_105_11 : z_co 105 11 = (.aload_n 0, 1, 0, 0, []) := rfl
theorem zr_105_12 : z_co 105 12 = (.getfield 12, 3, 11, 0, [440]) := rfl
theorem zr_105_15 : z_co 105 15 = (.iload_n 2, 1, 0, 0, []) := rfl
theorem zr_105_16 : z_co 105 16 = (.invokevirtual 135, 3, 76, 0, [556, 557, 558]) := rfl
theorem zr_105_19 : z_co 105 19 = (.ifCond .ne 5, 3, 0, 0, []) := rfl
theorem zr_105_22 : z_co 105 22 = (.iconst (-1), 1, 0, 0, []) := rfl
theorem zr_105_23 : z_co 105 23 = (.ireturn, 1, 0, 0, []) := rfl
theorem zr_105_24 : z_co 105 24 = (.aload_n 0, 1, 0, 0, []) := rfl
theorem zr_105_25 : z_co 105 25 = (.getfield 41, 3, 11, 5, [445]) := rfl
theorem zr_105_28 : z_co 105 28 = (.aload_n 0, 1, 0, 0, []) := rfl
theorem zr_105_29 : z_co 105 29 = (.getfield 12, 3, 11, 0, [440]) := rfl
theorem zr_105_32 : z_co 105 32 = (.iload_n 2, 1, 0, 0, []) := rfl
theorem zr_105_33 : z_co 105 33 = (.iload_n 1, 1, 0, 0, []) := rfl
theorem zr_105_34 : z_co 105 34 = (.iload_n 1, 1, 0, 0, []) := rfl
theorem zr_105_35 : z_co 105 35 = (.aload_n 0, 1, 0, 0, []) := rfl
theorem zr_105_36 : z_co 105 36 = (.getfield 12, 3, 11, 0, [440]) := rfl
theorem zr_105_39 : z_co 105 39 = (.iload_n 1, 1, 0, 0, []) := rfl
theorem zr_105_40 : z_co 105 40 = (.invokevirtual 125, 3, 83, 0, [535, 536, 537]) := rfl
theorem zr_105_43 : z_co 105 43 = (.invokevirtual 175, 3, 16, 0, [789, 790, 791]) := rfl
theorem zr_105_46 : z_co 105 46 = (.ifCond .eq 7, 3, 0, 0, []) := rfl
theorem zr_105_49 : z_co 105 49 = (.iconst 1, 1, 0, 0, []) := rfl
theorem zr_105_50 : z_co 105 50 = (.goto 4, 3, 0, 0, []) := rfl
theorem zr_105_53 : z_co 105 53 = (.iconst 0, 1, 0, 0, []) := rfl
theorem zr_105_54 : z_co 105 54 = (.ireturn, 1, 0, 0, []) := rfl
