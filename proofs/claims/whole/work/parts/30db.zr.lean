/-! the rows: printed by a program -/
theorem zr_4_0 : z_co 4 0 = (.iload_n 3, 1, 0, 0, []) := rfl
theorem zr_4_1 : z_co 4 1 = (.aload_n 1, 1, 0, 0, []) := rfl
theorem zr_4_2 : z_co 4 2 = (.getfield 34, 3, 10, 7, [163]) := rfl
theorem zr_4_5 : z_co 4 5 = (.if_icmp .ge 9, 3, 0, 0, []) := rfl
theorem zr_4_8 : z_co 4 8 = (.iload_n 3, 1, 0, 0, []) := rfl
theorem zr_4_9 : z_co 4 9 = (.bipush 6, 2, 0, 0, []) := rfl
theorem zr_4_11 : z_co 4 11 = (.if_icmp .lt 10, 3, 0, 0, []) := rfl
theorem zr_4_14 : z_co 4 14 = (.aload_n 0, 1, 0, 0, []) := rfl
theorem zr_4_15 : z_co 4 15 = (.aload_n 1, 1, 0, 0, []) := rfl
theorem zr_4_16 : z_co 4 16 = (.aload_n 2, 1, 0, 0, []) := rfl
theorem zr_4_17 : z_co 4 17 = (.invokevirtual 69, 3, 5, 0, [1035, 1037, 39]) := rfl
theorem zr_4_20 : z_co 4 20 = (.return_, 1, 0, 0, []) := rfl
theorem zr_4_21 : z_co 4 21 = (.iconst 0, 1, 0, 0, []) := rfl
theorem zr_4_22 : z_co 4 22 = (.istore 5, 2, 0, 0, []) := rfl
theorem zr_4_24 : z_co 4 24 = (.iload 5, 2, 0, 0, []) := rfl
theorem zr_4_26 : z_co 4 26 = (.aload_n 1, 1, 0, 0, []) := rfl
theorem zr_4_27 : z_co 4 27 = (.getfield 34, 3, 10, 7, [163]) := rfl
theorem zr_4_30 : z_co 4 30 = (.if_icmp .ge 51, 3, 0, 0, []) := rfl
theorem zr_4_33 : z_co 4 33 = (.iload 4, 2, 0, 0, []) := rfl
theorem zr_4_35 : z_co 4 35 = (.iload 5, 2, 0, 0, []) := rfl
theorem zr_4_37 : z_co 4 37 = (.ishr, 1, 0, 0, []) := rfl
theorem zr_4_38 : z_co 4 38 = (.iconst 1, 1, 0, 0, []) := rfl
theorem zr_4_39 : z_co 4 39 = (.iand, 1, 0, 0, []) := rfl
theorem zr_4_40 : z_co 4 40 = (.ifCond .ne 35, 3, 0, 0, []) := rfl
theorem zr_4_43 : z_co 4 43 = (.aload_n 0, 1, 0, 0, []) := rfl
theorem zr_4_44 : z_co 4 44 = (.getfield 23, 3, 0, 2, [410]) := rfl
theorem zr_4_47 : z_co 4 47 = (.iload_n 3, 1, 0, 0, []) := rfl
theorem zr_4_48 : z_co 4 48 = (.iload 5, 2, 0, 0, []) := rfl
theorem zr_4_50 : z_co 4 50 = (.iastore, 1, 0, 0, []) := rfl
theorem zr_4_51 : z_co 4 51 = (.aload_n 0, 1, 0, 0, []) := rfl
theorem zr_4_52 : z_co 4 52 = (.getfield 27, 3, 0, 3, [411]) := rfl
theorem zr_4_55 : z_co 4 55 = (.iload 5, 2, 0, 0, []) := rfl
theorem zr_4_57 : z_co 4 57 = (.iload_n 3, 1, 0, 0, []) := rfl
theorem zr_4_58 : z_co 4 58 = (.iastore, 1, 0, 0, []) := rfl
theorem zr_4_59 : z_co 4 59 = (.aload_n 0, 1, 0, 0, []) := rfl
theorem zr_4_60 : z_co 4 60 = (.aload_n 1, 1, 0, 0, []) := rfl
theorem zr_4_61 : z_co 4 61 = (.aload_n 2, 1, 0, 0, []) := rfl
theorem zr_4_62 : z_co 4 62 = (.iload_n 3, 1, 0, 0, []) := rfl
theorem zr_4_63 : z_co 4 63 = (.iconst 1, 1, 0, 0, []) := rfl
theorem zr_4_64 : z_co 4 64 = (.iadd, 1, 0, 0, []) := rfl
theorem zr_4_65 : z_co 4 65 = (.iload 4, 2, 0, 0, []) := rfl
theorem zr_4_67 : z_co 4 67 = (.iconst 1, 1, 0, 0, []) := rfl
theorem zr_4_68 : z_co 4 68 = (.iload 5, 2, 0, 0, []) := rfl
theorem zr_4_70 : z_co 4 70 = (.ishl, 1, 0, 0, []) := rfl
theorem zr_4_71 : z_co 4 71 = (.ior, 1, 0, 0, []) := rfl
theorem zr_4_72 : z_co 4 72 = (.invokevirtual 47, 3, 4, 0, [1031, 1033, 38]) := rfl
theorem zr_4_75 : z_co 4 75 = (.iinc 5 1, 3, 0, 0, []) := rfl
theorem zr_4_78 : z_co 4 78 = (.goto (-54), 3, 0, 0, []) := rfl
theorem zr_4_81 : z_co 4 81 = (.return_, 1, 0, 0, []) := rfl
theorem zr_5_0 : z_co 5 0 = (.aload_n 2, 1, 0, 0, []) := rfl
theorem zr_5_1 : z_co 5 1 = (.aload_n 1, 1, 0, 0, []) := rfl
theorem zr_5_2 : z_co 5 2 = (.aload_n 0, 1, 0, 0, []) := rfl
theorem zr_5_3 : z_co 5 3 = (.getfield 23, 3, 0, 2, [410]) := rfl
theorem zr_5_6 : z_co 5 6 = (.invokevirtual 73, 3, 48, 0, [1039, 837, 838]) := rfl
theorem zr_5_9 : z_co 5 9 = (.aload_n 1, 1, 0, 0, []) := rfl
theorem zr_5_10 : z_co 5 10 = (.invokevirtual 79, 3, 86, 0, [1040, 1041, 1042]) := rfl
theorem zr_5_13 : z_co 5 13 = (.istore_n 3, 1, 0, 0, []) := rfl
theorem zr_5_14 : z_co 5 14 = (.iconst 0, 1, 0, 0, []) := rfl
theorem zr_5_15 : z_co 5 15 = (.istore 4, 2, 0, 0, []) := rfl
theorem zr_5_17 : z_co 5 17 = (.iload 4, 2, 0, 0, []) := rfl
theorem zr_5_19 : z_co 5 19 = (.aload_n 1, 1, 0, 0, []) := rfl
theorem zr_5_20 : z_co 5 20 = (.getfield 54, 3, 10, 8, [170]) := rfl
theorem zr_5_23 : z_co 5 23 = (.if_icmp .ge 35, 3, 0, 0, []) := rfl
theorem zr_5_26 : z_co 5 26 = (.iload_n 3, 1, 0, 0, []) := rfl
theorem zr_5_27 : z_co 5 27 = (.iload 4, 2, 0, 0, []) := rfl
theorem zr_5_29 : z_co 5 29 = (.ishr, 1, 0, 0, []) := rfl
theorem zr_5_30 : z_co 5 30 = (.iconst 1, 1, 0, 0, []) := rfl
theorem zr_5_31 : z_co 5 31 = (.iand, 1, 0, 0, []) := rfl
theorem zr_5_32 : z_co 5 32 = (.ifCond .eq 20, 3, 0, 0, []) := rfl
theorem zr_5_35 : z_co 5 35 = (.aload_n 2, 1, 0, 0, []) := rfl
theorem zr_5_36 : z_co 5 36 = (.aload_n 1, 1, 0, 0, []) := rfl
theorem zr_5_37 : z_co 5 37 = (.iload 4, 2, 0, 0, []) := rfl
theorem zr_5_39 : z_co 5 39 = (.aload_n 0, 1, 0, 0, []) := rfl
theorem zr_5_40 : z_co 5 40 = (.iload 4, 2, 0, 0, []) := rfl
theorem zr_5_42 : z_co 5 42 = (.aload_n 1, 1, 0, 0, []) := rfl
theorem zr_5_43 : z_co 5 43 = (.getfield 34, 3, 10, 7, [163]) := rfl
theorem zr_5_46 : z_co 5 46 = (.invokevirtual 83, 3, 6, 0, [1044, 1046, 40]) := rfl
theorem zr_5_49 : z_co 5 49 = (.invokevirtual 87, 3, 50, 0, [1048, 851, 852]) := rfl
theorem zr_5_52 : z_co 5 52 = (.iinc 4 1, 3, 0, 0, []) := rfl
theorem zr_5_55 : z_co 5 55 = (.goto (-38), 3, 0, 0, []) := rfl
theorem zr_5_58 : z_co 5 58 = (.aload_n 2, 1, 0, 0, []) := rfl
theorem zr_5_59 : z_co 5 59 = (.aload_n 1, 1, 0, 0, []) := rfl
theorem zr_5_60 : z_co 5 60 = (.aload_n 0, 1, 0, 0, []) := rfl
theorem zr_5_61 : z_co 5 61 = (.getfield 27, 3, 0, 3, [411]) := rfl
theorem zr_5_64 : z_co 5 64 = (.invokevirtual 91, 3, 61, 0, [1049, 962, 963]) := rfl
theorem zr_5_67 : z_co 5 67 = (.invokestatic 57, 3, 256, 0, [1029, 915]) := rfl
theorem zr_5_70 : z_co 5 70 = (.istore 4, 2, 0, 0, []) := rfl
theorem zr_5_72 : z_co 5 72 = (.aload_n 0, 1, 0, 0, []) := rfl
theorem zr_5_73 : z_co 5 73 = (.getfield 12, 3, 0, 0, [407]) := rfl
theorem zr_5_76 : z_co 5 76 = (.iload 4, 2, 0, 0, []) := rfl
theorem zr_5_78 : z_co 5 78 = (.aload_n 2, 1, 0, 0, []) := rfl
theorem zr_5_79 : z_co 5 79 = (.invokevirtual 95, 3, 62, 0, [1050, 975, 976]) := rfl
theorem zr_5_82 : z_co 5 82 = (.invokestatic 57, 3, 256, 0, [1029, 915]) := rfl
theorem zr_5_85 : z_co 5 85 = (.aload_n 0, 1, 0, 0, []) := rfl
theorem zr_5_86 : z_co 5 86 = (.getfield 23, 3, 0, 2, [410]) := rfl
theorem zr_5_89 : z_co 5 89 = (.invokevirtual 98, 3, 68, 0, [1051, 1006, 1007]) := rfl
theorem zr_5_92 : z_co 5 92 = (.return_, 1, 0, 0, []) := rfl
theorem zr_6_0 : z_co 6 0 = (.iconst 0, 1, 0, 0, []) := rfl
theorem zr_6_1 : z_co 6 1 = (.istore_n 3, 1, 0, 0, []) := rfl
theorem zr_6_2 : z_co 6 2 = (.iconst 0, 1, 0, 0, []) := rfl
theorem zr_6_3 : z_co 6 3 = (.istore 4, 2, 0, 0, []) := rfl
theorem zr_6_5 : z_co 6 5 = (.iconst 0, 1, 0, 0, []) := rfl
theorem zr_6_6 : z_co 6 6 = (.istore 5, 2, 0, 0, []) := rfl
theorem zr_6_8 : z_co 6 8 = (.iload 5, 2, 0, 0, []) := rfl
theorem zr_6_10 : z_co 6 10 = (.iload_n 2, 1, 0, 0, []) := rfl
theorem zr_6_11 : z_co 6 11 = (.if_icmp .ge 55, 3, 0, 0, []) := rfl
theorem zr_6_14 : z_co 6 14 = (.iload 5, 2, 0, 0, []) := rfl
theorem zr_6_16 : z_co 6 16 = (.bipush 6, 2, 0, 0, []) := rfl
theorem zr_6_18 : z_co 6 18 = (.if_icmp .ge 48, 3, 0, 0, []) := rfl
theorem zr_6_21 : z_co 6 21 = (.iload_n 3, 1, 0, 0, []) := rfl
theorem zr_6_22 : z_co 6 22 = (.aload_n 0, 1, 0, 0, []) := rfl
theorem zr_6_23 : z_co 6 23 = (.getfield 20, 3, 0, 1, [409]) := rfl
theorem zr_6_26 : z_co 6 26 = (.aload_n 0, 1, 0, 0, []) := rfl
theorem zr_6_27 : z_co 6 27 = (.getfield 23, 3, 0, 2, [410]) := rfl
theorem zr_6_30 : z_co 6 30 = (.iload 5, 2, 0, 0, []) := rfl
theorem zr_6_32 : z_co 6 32 = (.iaload, 1, 0, 0, []) := rfl
theorem zr_6_33 : z_co 6 33 = (.aaload, 1, 0, 0, []) := rfl
theorem zr_6_34 : z_co 6 34 = (.iload 4, 2, 0, 0, []) := rfl
theorem zr_6_36 : z_co 6 36 = (.iaload, 1, 0, 0, []) := rfl
theorem zr_6_37 : z_co 6 37 = (.iload_n 1, 1, 0, 0, []) := rfl
theorem zr_6_38 : z_co 6 38 = (.ishr, 1, 0, 0, []) := rfl
theorem zr_6_39 : z_co 6 39 = (.iconst 1, 1, 0, 0, []) := rfl
theorem zr_6_40 : z_co 6 40 = (.iand, 1, 0, 0, []) := rfl
theorem zr_6_41 : z_co 6 41 = (.iload 5, 2, 0, 0, []) := rfl
theorem zr_6_43 : z_co 6 43 = (.ishl, 1, 0, 0, []) := rfl
theorem zr_6_44 : z_co 6 44 = (.ior, 1, 0, 0, []) := rfl
theorem zr_6_45 : z_co 6 45 = (.istore_n 3, 1, 0, 0, []) := rfl
theorem zr_6_46 : z_co 6 46 = (.iload 4, 2, 0, 0, []) := rfl
theorem zr_6_48 : z_co 6 48 = (.iconst 1, 1, 0, 0, []) := rfl
theorem zr_6_49 : z_co 6 49 = (.aload_n 0, 1, 0, 0, []) := rfl
theorem zr_6_50 : z_co 6 50 = (.getfield 23, 3, 0, 2, [410]) := rfl
theorem zr_6_53 : z_co 6 53 = (.iload 5, 2, 0, 0, []) := rfl
theorem zr_6_55 : z_co 6 55 = (.iaload, 1, 0, 0, []) := rfl
theorem zr_6_56 : z_co 6 56 = (.ishl, 1, 0, 0, []) := rfl
theorem zr_6_57 : z_co 6 57 = (.ior, 1, 0, 0, []) := rfl
theorem zr_6_58 : z_co 6 58 = (.istore 4, 2, 0, 0, []) := rfl
theorem zr_6_60 : z_co 6 60 = (.iinc 5 1, 3, 0, 0, []) := rfl
theorem zr_6_63 : z_co 6 63 = (.goto (-55), 3, 0, 0, []) := rfl
theorem zr_6_66 : z_co 6 66 = (.iload_n 3, 1, 0, 0, []) := rfl
theorem zr_6_67 : z_co 6 67 = (.ireturn, 1, 0, 0, []) := rfl
theorem zr_7_0 : z_co 7 0 = (.aload_n 0, 1, 0, 0, []) := rfl
theorem zr_7_1 : z_co 7 1 = (.invokespecial 3, 3, 1000, 0, [345, 131, 132]) := rfl
theorem zr_7_4 : z_co 7 4 = (.return_, 1, 0, 0, []) := rfl
theorem zr_8_0 : z_co 8 0 = (.aload_n 0, 1, 0, 0, []) := rfl
theorem zr_8_1 : z_co 8 1 = (.iconst 0, 1, 0, 0, []) := rfl
theorem zr_8_2 : z_co 8 2 = (.putfield 9, 3, 1, 3, [349]) := rfl
theorem zr_8_5 : z_co 8 5 = (.aload_n 0, 1, 0, 0, []) := rfl
theorem zr_8_6 : z_co 8 6 = (.iconst 0, 1, 0, 0, []) := rfl
theorem zr_8_7 : z_co 8 7 = (.putfield 15, 3, 1, 2, [348]) := rfl
theorem zr_8_10 : z_co 8 10 = (.aload_n 1, 1, 0, 0, []) := rfl
theorem zr_8_11 : z_co 8 11 = (.getfield 18, 3, 7, 7, [313]) := rfl
theorem zr_8_14 : z_co 8 14 = (.istore 4, 2, 0, 0, []) := rfl
theorem zr_8_16 : z_co 8 16 = (.iconst 1, 1, 0, 0, []) := rfl
theorem zr_8_17 : z_co 8 17 = (.aload_n 1, 1, 0, 0, []) := rfl
theorem zr_8_18 : z_co 8 18 = (.getfield 23, 3, 7, 8, [317]) := rfl
theorem zr_8_21 : z_co 8 21 = (.ishl, 1, 0, 0, []) := rfl
theorem zr_8_22 : z_co 8 22 = (.iconst 1, 1, 0, 0, []) := rfl
theorem zr_8_23 : z_co 8 23 = (.isub, 1, 0, 0, []) := rfl
theorem zr_8_24 : z_co 8 24 = (.iconst 1, 1, 0, 0, []) := rfl
theorem zr_8_25 : z_co 8 25 = (.ishr, 1, 0, 0, []) := rfl
theorem zr_8_26 : z_co 8 26 = (.istore 5, 2, 0, 0, []) := rfl
theorem zr_8_28 : z_co 8 28 = (.iload_n 3, 1, 0, 0, []) := rfl
theorem zr_8_29 : z_co 8 29 = (.iconst 2, 1, 0, 0, []) := rfl
theorem zr_8_30 : z_co 8 30 = (.if_icmp .ne 10, 3, 0, 0, []) := rfl
theorem zr_8_33 : z_co 8 33 = (.aload_n 1, 1, 0, 0, []) := rfl
theorem zr_8_34 : z_co 8 34 = (.invokevirtual 26, 3, 64, 0, [894, 895, 896]) := rfl
theorem zr_8_37 : z_co 8 37 = (.goto 10, 3, 0, 0, []) := rfl
theorem zr_8_40 : z_co 8 40 = (.aload_n 1, 1, 0, 0, []) := rfl
theorem zr_8_41 : z_co 8 41 = (.invokevirtual 30, 3, 63, 0, [898, 899, 900]) := rfl
theorem zr_8_44 : z_co 8 44 = (.iload 5, 2, 0, 0, []) := rfl
theorem zr_8_46 : z_co 8 46 = (.iand, 1, 0, 0, []) := rfl
theorem zr_8_47 : z_co 8 47 = (.istore 6, 2, 0, 0, []) := rfl
theorem zr_8_49 : z_co 8 49 = (.iconst 0, 1, 0, 0, []) := rfl
theorem zr_8_50 : z_co 8 50 = (.istore 7, 2, 0, 0, []) := rfl
theorem zr_8_52 : z_co 8 52 = (.iload 7, 2, 0, 0, []) := rfl
theorem zr_8_54 : z_co 8 54 = (.iload 6, 2, 0, 0, []) := rfl
theorem zr_8_56 : z_co 8 56 = (.if_icmp .gt 80, 3, 0, 0, []) := rfl
theorem zr_8_59 : z_co 8 59 = (.iload 7, 2, 0, 0, []) := rfl
theorem zr_8_61 : z_co 8 61 = (.iload 6, 2, 0, 0, []) := rfl
theorem zr_8_63 : z_co 8 63 = (.iconst (-1), 1, 0, 0, []) := rfl
theorem zr_8_64 : z_co 8 64 = (.ixor, 1, 0, 0, []) := rfl
theorem zr_8_65 : z_co 8 65 = (.iand, 1, 0, 0, []) := rfl
theorem zr_8_66 : z_co 8 66 = (.ifCond .ne 64, 3, 0, 0, []) := rfl
theorem zr_8_69 : z_co 8 69 = (.aload_n 1, 1, 0, 0, []) := rfl
theorem zr_8_70 : z_co 8 70 = (.iload_n 3, 1, 0, 0, []) := rfl
theorem zr_8_71 : z_co 8 71 = (.iconst 2, 1, 0, 0, []) := rfl
theorem zr_8_72 : z_co 8 72 = (.if_icmp .ne 13, 3, 0, 0, []) := rfl
theorem zr_8_75 : z_co 8 75 = (.iload 4, 2, 0, 0, []) := rfl
theorem zr_8_77 : z_co 8 77 = (.iload 7, 2, 0, 0, []) := rfl
theorem zr_8_79 : z_co 8 79 = (.iconst 1, 1, 0, 0, []) := rfl
theorem zr_8_80 : z_co 8 80 = (.ishl, 1, 0, 0, []) := rfl
theorem zr_8_81 : z_co 8 81 = (.ior, 1, 0, 0, []) := rfl
theorem zr_8_82 : z_co 8 82 = (.goto 12, 3, 0, 0, []) := rfl
theorem zr_8_85 : z_co 8 85 = (.iload 4, 2, 0, 0, []) := rfl
theorem zr_8_87 : z_co 8 87 = (.iload 7, 2, 0, 0, []) := rfl
theorem zr_8_89 : z_co 8 89 = (.iconst 1, 1, 0, 0, []) := rfl
theorem zr_8_90 : z_co 8 90 = (.ishl, 1, 0, 0, []) := rfl
theorem zr_8_91 : z_co 8 91 = (.iconst (-1), 1, 0, 0, []) := rfl
theorem zr_8_92 : z_co 8 92 = (.ixor, 1, 0, 0, []) := rfl
theorem zr_8_93 : z_co 8 93 = (.iand, 1, 0, 0, []) := rfl
theorem zr_8_94 : z_co 8 94 = (.putfield 18, 3, 7, 7, [313]) := rfl
theorem zr_8_97 : z_co 8 97 = (.aload_n 1, 1, 0, 0, []) := rfl
theorem zr_8_98 : z_co 8 98 = (.iload_n 2, 1, 0, 0, []) := rfl
theorem zr_8_99 : z_co 8 99 = (.invokevirtual 33, 3, 55, 0, [902, 903, 904]) := rfl
theorem zr_8_102 : z_co 8 102 = (.iload_n 3, 1, 0, 0, []) := rfl
theorem zr_8_103 : z_co 8 103 = (.iconst 1, 1, 0, 0, []) := rfl
theorem zr_8_104 : z_co 8 104 = (.if_icmp .eq 7, 3, 0, 0, []) := rfl
theorem zr_8_107 : z_co 8 107 = (.iconst 1, 1, 0, 0, []) := rfl
theorem zr_8_108 : z_co 8 108 = (.goto 4, 3, 0, 0, []) := rfl
theorem zr_8_111 : z_co 8 111 = (.iconst 0, 1, 0, 0, []) := rfl
theorem zr_8_112 : z_co 8 112 = (.if_icmp .ne 18, 3, 0, 0, []) := rfl
theorem zr_8_115 : z_co 8 115 = (.aload_n 0, 1, 0, 0, []) := rfl
theorem zr_8_116 : z_co 8 116 = (.iload 7, 2, 0, 0, []) := rfl
theorem zr_8_118 : z_co 8 118 = (.iload_n 3, 1, 0, 0, []) := rfl
theorem zr_8_119 : z_co 8 119 = (.ifCond .ne 7, 3, 0, 0, []) := rfl
theorem zr_8_122 : z_co 8 122 = (.iconst 1, 1, 0, 0, []) := rfl
theorem zr_8_123 : z_co 8 123 = (.goto 4, 3, 0, 0, []) := rfl
theorem zr_8_126 : z_co 8 126 = (.iconst 0, 1, 0, 0, []) := rfl
theorem zr_8_127 : z_co 8 127 = (.invokevirtual 37, 3, 9, 0, [910, 912, 32]) := rfl
theorem zr_8_130 : z_co 8 130 = (.iinc 7 1, 3, 0, 0, []) := rfl
theorem zr_8_133 : z_co 8 133 = (.goto (-81), 3, 0, 0, []) := rfl
theorem zr_8_136 : z_co 8 136 = (.aload_n 1, 1, 0, 0, []) := rfl
theorem zr_8_137 : z_co 8 137 = (.iload 4, 2, 0, 0, []) := rfl
theorem zr_8_139 : z_co 8 139 = (.putfield 18, 3, 7, 7, [313]) := rfl
theorem zr_8_142 : z_co 8 142 = (.return_, 1, 0, 0, []) := rfl
theorem zr_9_0 : z_co 9 0 = (.iload_n 1, 1, 0, 0, []) := rfl
theorem zr_9_1 : z_co 9 1 = (.invokestatic 41, 3, 256, 0, [914, 915]) := rfl
theorem zr_9_4 : z_co 9 4 = (.istore_n 3, 1, 0, 0, []) := rfl
theorem zr_9_5 : z_co 9 5 = (.aload_n 0, 1, 0, 0, []) := rfl
theorem zr_9_6 : z_co 9 6 = (.getfield 9, 3, 1, 3, [349]) := rfl
theorem zr_9_9 : z_co 9 9 = (.ifCond .eq 26, 3, 0, 0, []) := rfl
theorem zr_9_12 : z_co 9 12 = (.iload_n 2, 1, 0, 0, []) := rfl
theorem zr_9_13 : z_co 9 13 = (.ifCond .eq 14, 3, 0, 0, []) := rfl
theorem zr_9_16 : z_co 9 16 = (.iload_n 3, 1, 0, 0, []) := rfl
theorem zr_9_17 : z_co 9 17 = (.aload_n 0, 1, 0, 0, []) := rfl
theorem zr_9_18 : z_co 9 18 = (.getfield 47, 3, 1, 0, [346]) := rfl
theorem zr_9_21 : z_co 9 21 = (.if_icmp .le 29, 3, 0, 0, []) := rfl
theorem zr_9_24 : z_co 9 24 = (.goto 11, 3, 0, 0, []) := rfl
theorem zr_9_27 : z_co 9 27 = (.iload_n 3, 1, 0, 0, []) := rfl
theorem zr_9_28 : z_co 9 28 = (.aload_n 0, 1, 0, 0, []) := rfl
theorem zr_9_29 : z_co 9 29 = (.getfield 47, 3, 1, 0, [346]) := rfl
theorem zr_9_32 : z_co 9 32 = (.if_icmp .ge 18, 3, 0, 0, []) := rfl
theorem zr_9_35 : z_co 9 35 = (.aload_n 0, 1, 0, 0, []) := rfl
theorem zr_9_36 : z_co 9 36 = (.iload_n 3, 1, 0, 0, []) := rfl
theorem zr_9_37 : z_co 9 37 = (.putfield 47, 3, 1, 0, [346]) := rfl
theorem zr_9_40 : z_co 9 40 = (.aload_n 0, 1, 0, 0, []) := rfl
theorem zr_9_41 : z_co 9 41 = (.iload_n 1, 1, 0, 0, []) := rfl
theorem zr_9_42 : z_co 9 42 = (.putfield 50, 3, 1, 1, [347]) := rfl
theorem zr_9_45 : z_co 9 45 = (.aload_n 0, 1, 0, 0, []) := rfl
theorem zr_9_46 : z_co 9 46 = (.iconst 0, 1, 0, 0, []) := rfl
theorem zr_9_47 : z_co 9 47 = (.putfield 15, 3, 1, 2, [348]) := rfl
theorem zr_9_50 : z_co 9 50 = (.iload_n 3, 1, 0, 0, []) := rfl
theorem zr_9_51 : z_co 9 51 = (.aload_n 0, 1, 0, 0, []) := rfl
theorem zr_9_52 : z_co 9 52 = (.getfield 47, 3, 1, 0, [346]) := rfl
theorem zr_9_55 : z_co 9 55 = (.if_icmp .ne 13, 3, 0, 0, []) := rfl
theorem zr_9_58 : z_co 9 58 = (.aload_n 0, 1, 0, 0, []) := rfl
theorem zr_9_59 : z_co 9 59 = (.dup, 1, 0, 0, []) := rfl
theorem zr_9_60 : z_co 9 60 = (.getfield 15, 3, 1, 2, [348]) := rfl
theorem zr_9_63 : z_co 9 63 = (.iconst 1, 1, 0, 0, []) := rfl
theorem zr_9_64 : z_co 9 64 = (.iadd, 1, 0, 0, []) := rfl
theorem zr_9_65 : z_co 9 65 = (.putfield 15, 3, 1, 2, [348]) := rfl
theorem zr_9_68 : z_co 9 68 = (.aload_n 0, 1, 0, 0, []) := rfl
theorem zr_9_69 : z_co 9 69 = (.dup, 1, 0, 0, []) := rfl
theorem zr_9_70 : z_co 9 70 = (.getfield 9, 3, 1, 3, [349]) := rfl
theorem zr_9_73 : z_co 9 73 = (.iconst 1, 1, 0, 0, []) := rfl
theorem zr_9_74 : z_co 9 74 = (.iadd, 1, 0, 0, []) := rfl
theorem zr_9_75 : z_co 9 75 = (.putfield 9, 3, 1, 3, [349]) := rfl
theorem zr_9_78 : z_co 9 78 = (.return_, 1, 0, 0, []) := rfl
theorem zr_10_0 : z_co 10 0 = (.iload_n 1, 1, 0, 0, []) := rfl
theorem zr_10_1 : z_co 10 1 = (.iconst 2, 1, 0, 0, []) := rfl
theorem zr_10_2 : z_co 10 2 = (.if_icmp .ne 8, 3, 0, 0, []) := rfl
theorem zr_10_5 : z_co 10 5 = (.aload_n 0, 1, 0, 0, []) := rfl
theorem zr_10_6 : z_co 10 6 = (.getfield 15, 3, 1, 2, [348]) := rfl
theorem zr_10_9 : z_co 10 9 = (.ireturn, 1, 0, 0, []) := rfl
theorem zr_10_10 : z_co 10 10 = (.iload_n 1, 1, 0, 0, []) := rfl
theorem zr_10_11 : z_co 10 11 = (.iconst 3, 1, 0, 0, []) := rfl
theorem zr_10_12 : z_co 10 12 = (.if_icmp .ne 8, 3, 0, 0, []) := rfl
theorem zr_10_15 : z_co 10 15 = (.aload_n 0, 1, 0, 0, []) := rfl
theorem zr_10_16 : z_co 10 16 = (.getfield 9, 3, 1, 3, [349]) := rfl
theorem zr_10_19 : z_co 10 19 = (.ireturn, 1, 0, 0, []) := rfl
theorem zr_10_20 : z_co 10 20 = (.aload_n 0, 1, 0, 0, []) := rfl
theorem zr_10_21 : z_co 10 21 = (.getfield 9, 3, 1, 3, [349]) := rfl
theorem zr_10_24 : z_co 10 24 = (.ifCond .ne 5, 3, 0, 0, []) := rfl
theorem zr_10_27 : z_co 10 27 = (.iconst (-1), 1, 0, 0, []) := rfl
theorem zr_10_28 : z_co 10 28 = (.ireturn, 1, 0, 0, []) := rfl
theorem zr_10_29 : z_co 10 29 = (.iload_n 1, 1, 0, 0, []) := rfl
theorem zr_10_30 : z_co 10 30 = (.ifCond .ne 10, 3, 0, 0, []) := rfl
theorem zr_10_33 : z_co 10 33 = (.aload_n 0, 1, 0, 0, []) := rfl
theorem zr_10_34 : z_co 10 34 = (.getfield 47, 3, 1, 0, [346]) := rfl
theorem zr_10_37 : z_co 10 37 = (.goto 7, 3, 0, 0, []) := rfl
theorem zr_10_40 : z_co 10 40 = (.aload_n 0, 1, 0, 0, []) := rfl
theorem zr_10_41 : z_co 10 41 = (.getfield 50, 3, 1, 1, [347]) := rfl
theorem zr_10_44 : z_co 10 44 = (.ireturn, 1, 0, 0, []) := rfl
theorem zr_11_0 : z_co 11 0 = (.aload_n 0, 1, 0, 0, []) := rfl
theorem zr_11_1 : z_co 11 1 = (.invokespecial 3, 3, 1000, 0, [426, 131, 132]) := rfl
theorem zr_11_4 : z_co 11 4 = (.aload_n 0, 1, 0, 0, []) := rfl
theorem zr_11_5 : z_co 11 5 = (.iconst 3, 1, 0, 0, []) := rfl
theorem zr_11_6 : z_co 11 6 = (.bipush 20, 2, 0, 0, []) := rfl
theorem zr_11_8 : z_co 11 8 = (.multianewarray 9 2, 4, 0, 0, [427, 140]) := rfl
theorem zr_11_12 : z_co 11 12 = (.putfield 11, 3, 2, 0, [428]) := rfl
theorem zr_11_15 : z_co 11 15 = (.return_, 1, 0, 0, []) := rfl
theorem zr_12_0 : z_co 12 0 = (.aload_n 0, 1, 0, 0, []) := rfl
theorem zr_12_1 : z_co 12 1 = (.iload_n 3, 1, 0, 0, []) := rfl
theorem zr_12_2 : z_co 12 2 = (.putfield 16, 3, 2, 2, [432]) := rfl
theorem zr_12_5 : z_co 12 5 = (.aload_n 0, 1, 0, 0, []) := rfl
theorem zr_12_6 : z_co 12 6 = (.iload 4, 2, 0, 0, []) := rfl
theorem zr_12_8 : z_co 12 8 = (.bipush 20, 2, 0, 0, []) := rfl
theorem zr_12_10 : z_co 12 10 = (.invokestatic 20, 3, 261, 0, [1128, 599]) := rfl
theorem zr_12_13 : z_co 12 13 = (.putfield 26, 3, 2, 1, [430]) := rfl
theorem zr_12_16 : z_co 12 16 = (.iconst 0, 1, 0, 0, []) := rfl
theorem zr_12_17 : z_co 12 17 = (.istore 5, 2, 0, 0, []) := rfl
theorem zr_12_19 : z_co 12 19 = (.iconst 0, 1, 0, 0, []) := rfl
theorem zr_12_20 : z_co 12 20 = (.istore 6, 2, 0, 0, []) := rfl
theorem zr_12_22 : z_co 12 22 = (.iload 6, 2, 0, 0, []) := rfl
theorem zr_12_24 : z_co 12 24 = (.aload_n 0, 1, 0, 0, []) := rfl
theorem zr_12_25 : z_co 12 25 = (.getfield 26, 3, 2, 1, [430]) := rfl
theorem zr_12_28 : z_co 12 28 = (.if_icmp .ge 72, 3, 0, 0, []) := rfl
theorem zr_12_31 : z_co 12 31 = (.aload_n 2, 1, 0, 0, []) := rfl
theorem zr_12_32 : z_co 12 32 = (.aload_n 1, 1, 0, 0, []) := rfl
theorem zr_12_33 : z_co 12 33 = (.getstatic 29, 3, 6, 1, [1129]) := rfl
theorem zr_12_36 : z_co 12 36 = (.invokevirtual 33, 3, 48, 0, [1130, 837, 838]) := rfl
theorem zr_12_39 : z_co 12 39 = (.aload_n 0, 1, 0, 0, []) := rfl
theorem zr_12_40 : z_co 12 40 = (.getfield 11, 3, 2, 0, [428]) := rfl
theorem zr_12_43 : z_co 12 43 = (.iconst 0, 1, 0, 0, []) := rfl
theorem zr_12_44 : z_co 12 44 = (.aaload, 1, 0, 0, []) := rfl
theorem zr_12_45 : z_co 12 45 = (.iload 6, 2, 0, 0, []) := rfl
theorem zr_12_47 : z_co 12 47 = (.aload_n 0, 1, 0, 0, []) := rfl
theorem zr_12_48 : z_co 12 48 = (.aload_n 1, 1, 0, 0, []) := rfl
theorem zr_12_49 : z_co 12 49 = (.aload_n 2, 1, 0, 0, []) := rfl
theorem zr_12_50 : z_co 12 50 = (.invokevirtual 39, 3, 13, 0, [1131, 1133, 44]) := rfl
theorem zr_12_53 : z_co 12 53 = (.iastore, 1, 0, 0, []) := rfl
theorem zr_12_54 : z_co 12 54 = (.aload_n 0, 1, 0, 0, []) := rfl
theorem zr_12_55 : z_co 12 55 = (.getfield 11, 3, 2, 0, [428]) := rfl
theorem zr_12_58 : z_co 12 58 = (.iconst 1, 1, 0, 0, []) := rfl
theorem zr_12_59 : z_co 12 59 = (.aaload, 1, 0, 0, []) := rfl
theorem zr_12_60 : z_co 12 60 = (.iload 6, 2, 0, 0, []) := rfl
theorem zr_12_62 : z_co 12 62 = (.aload_n 2, 1, 0, 0, []) := rfl
theorem zr_12_63 : z_co 12 63 = (.invokevirtual 43, 3, 62, 0, [1141, 975, 976]) := rfl
theorem zr_12_66 : z_co 12 66 = (.iastore, 1, 0, 0, []) := rfl
theorem zr_12_67 : z_co 12 67 = (.aload_n 0, 1, 0, 0, []) := rfl
theorem zr_12_68 : z_co 12 68 = (.getfield 11, 3, 2, 0, [428]) := rfl
theorem zr_12_71 : z_co 12 71 = (.iconst 2, 1, 0, 0, []) := rfl
theorem zr_12_72 : z_co 12 72 = (.aaload, 1, 0, 0, []) := rfl
theorem zr_12_73 : z_co 12 73 = (.iload 6, 2, 0, 0, []) := rfl
theorem zr_12_75 : z_co 12 75 = (.aload_n 2, 1, 0, 0, []) := rfl
theorem zr_12_76 : z_co 12 76 = (.invokevirtual 47, 3, 64, 0, [1142, 895, 896]) := rfl
theorem zr_12_79 : z_co 12 79 = (.iastore, 1, 0, 0, []) := rfl
theorem zr_12_80 : z_co 12 80 = (.iload 5, 2, 0, 0, []) := rfl
theorem zr_12_82 : z_co 12 82 = (.aload_n 0, 1, 0, 0, []) := rfl
theorem zr_12_83 : z_co 12 83 = (.getfield 11, 3, 2, 0, [428]) := rfl
theorem zr_12_86 : z_co 12 86 = (.iconst 0, 1, 0, 0, []) := rfl
theorem zr_12_87 : z_co 12 87 = (.aaload, 1, 0, 0, []) := rfl
theorem zr_12_88 : z_co 12 88 = (.iload 6, 2, 0, 0, []) := rfl
theorem zr_12_90 : z_co 12 90 = (.iaload, 1, 0, 0, []) := rfl
theorem zr_12_91 : z_co 12 91 = (.iadd, 1, 0, 0, []) := rfl
theorem zr_12_92 : z_co 12 92 = (.istore 5, 2, 0, 0, []) := rfl
theorem zr_12_94 : z_co 12 94 = (.iinc 6 1, 3, 0, 0, []) := rfl
theorem zr_12_97 : z_co 12 97 = (.goto (-75), 3, 0, 0, []) := rfl
theorem zr_12_100 : z_co 12 100 = (.iload 5, 2, 0, 0, []) := rfl
theorem zr_12_102 : z_co 12 102 = (.ireturn, 1, 0, 0, []) := rfl
theorem zr_13_0 : z_co 13 0 = (.aload_n 1, 1, 0, 0, []) := rfl
theorem zr_13_1 : z_co 13 1 = (.getfield 50, 3, 10, 8, [169]) := rfl
theorem zr_13_4 : z_co 13 4 = (.ifCond .eq 10, 3, 0, 0, []) := rfl
theorem zr_13_7 : z_co 13 7 = (.aload_n 1, 1, 0, 0, []) := rfl
theorem zr_13_8 : z_co 13 8 = (.getfield 55, 3, 10, 7, [165]) := rfl
theorem zr_13_11 : z_co 13 11 = (.ifCond .ne 5, 3, 0, 0, []) := rfl
theorem zr_13_14 : z_co 13 14 = (.iconst 0, 1, 0, 0, []) := rfl
theorem zr_13_15 : z_co 13 15 = (.ireturn, 1, 0, 0, []) := rfl
theorem zr_13_16 : z_co 13 16 = (.iconst 0, 1, 0, 0, []) := rfl
theorem zr_13_17 : z_co 13 17 = (.istore_n 3, 1, 0, 0, []) := rfl
theorem zr_13_18 : z_co 13 18 = (.iconst 0, 1, 0, 0, []) := rfl
theorem zr_13_19 : z_co 13 19 = (.istore 4, 2, 0, 0, []) := rfl
theorem zr_13_21 : z_co 13 21 = (.iload 4, 2, 0, 0, []) := rfl
theorem zr_13_23 : z_co 13 23 = (.bipush 6, 2, 0, 0, []) := rfl
theorem zr_13_25 : z_co 13 25 = (.if_icmp .ge 43, 3, 0, 0, []) := rfl
theorem zr_13_28 : z_co 13 28 = (.aload_n 0, 1, 0, 0, []) := rfl
theorem zr_13_29 : z_co 13 29 = (.aload_n 1, 1, 0, 0, []) := rfl
theorem zr_13_30 : z_co 13 30 = (.getfield 50, 3, 10, 8, [169]) := rfl
theorem zr_13_33 : z_co 13 33 = (.invokevirtual 58, 3, 14, 0, [1135, 1137, 45]) := rfl
theorem zr_13_36 : z_co 13 36 = (.istore 5, 2, 0, 0, []) := rfl
theorem zr_13_38 : z_co 13 38 = (.aload_n 0, 1, 0, 0, []) := rfl
theorem zr_13_39 : z_co 13 39 = (.aload_n 1, 1, 0, 0, []) := rfl
theorem zr_13_40 : z_co 13 40 = (.getfield 55, 3, 10, 7, [165]) := rfl
theorem zr_13_43 : z_co 13 43 = (.invokevirtual 58, 3, 14, 0, [1135, 1137, 45]) := rfl
theorem zr_13_46 : z_co 13 46 = (.istore 6, 2, 0, 0, []) := rfl
theorem zr_13_48 : z_co 13 48 = (.aload_n 2, 1, 0, 0, []) := rfl
theorem zr_13_49 : z_co 13 49 = (.iload 5, 2, 0, 0, []) := rfl
theorem zr_13_51 : z_co 13 51 = (.iload 6, 2, 0, 0, []) := rfl
theorem zr_13_53 : z_co 13 53 = (.invokevirtual 62, 3, 59, 0, [1140, 967, 968]) := rfl
theorem zr_13_56 : z_co 13 56 = (.ifCond .eq 6, 3, 0, 0, []) := rfl
theorem zr_13_59 : z_co 13 59 = (.iinc 3 1, 3, 0, 0, []) := rfl
theorem zr_13_62 : z_co 13 62 = (.iinc 4 1, 3, 0, 0, []) := rfl
theorem zr_13_65 : z_co 13 65 = (.goto (-44), 3, 0, 0, []) := rfl
theorem zr_13_68 : z_co 13 68 = (.iload_n 3, 1, 0, 0, []) := rfl
theorem zr_13_69 : z_co 13 69 = (.ireturn, 1, 0, 0, []) := rfl
theorem zr_14_0 : z_co 14 0 = (.aload_n 0, 1, 0, 0, []) := rfl
theorem zr_14_1 : z_co 14 1 = (.aload_n 0, 1, 0, 0, []) := rfl
theorem zr_14_2 : z_co 14 2 = (.getfield 16, 3, 2, 2, [432]) := rfl
theorem zr_14_5 : z_co 14 5 = (.sipush 1103, 3, 0, 0, []) := rfl
theorem zr_14_8 : z_co 14 8 = (.imul, 1, 0, 0, []) := rfl
theorem zr_14_9 : z_co 14 9 = (.sipush 12345, 3, 0, 0, []) := rfl
theorem zr_14_12 : z_co 14 12 = (.iadd, 1, 0, 0, []) := rfl
theorem zr_14_13 : z_co 14 13 = (.ldc 66, 2, 1000003, 0, [1139]) := rfl
theorem zr_14_15 : z_co 14 15 = (.irem, 1, 0, 0, []) := rfl
theorem zr_14_16 : z_co 14 16 = (.putfield 16, 3, 2, 2, [432]) := rfl
theorem zr_14_19 : z_co 14 19 = (.iload_n 1, 1, 0, 0, []) := rfl
theorem zr_14_20 : z_co 14 20 = (.ifCond .le 12, 3, 0, 0, []) := rfl
theorem zr_14_23 : z_co 14 23 = (.aload_n 0, 1, 0, 0, []) := rfl
theorem zr_14_24 : z_co 14 24 = (.getfield 16, 3, 2, 2, [432]) := rfl
theorem zr_14_27 : z_co 14 27 = (.iload_n 1, 1, 0, 0, []) := rfl
theorem zr_14_28 : z_co 14 28 = (.irem, 1, 0, 0, []) := rfl
theorem zr_14_29 : z_co 14 29 = (.goto 4, 3, 0, 0, []) := rfl
theorem zr_14_32 : z_co 14 32 = (.iconst 0, 1, 0, 0, []) := rfl
theorem zr_14_33 : z_co 14 33 = (.ireturn, 1, 0, 0, []) := rfl
theorem zr_15_0 : z_co 15 0 = (.aload_n 0, 1, 0, 0, []) := rfl
theorem zr_15_1 : z_co 15 1 = (.invokespecial 3, 3, 1000, 0, [272, 131, 132]) := rfl
theorem zr_15_4 : z_co 15 4 = (.aload_n 0, 1, 0, 0, []) := rfl
theorem zr_15_5 : z_co 15 5 = (.bipush 9, 2, 0, 0, []) := rfl
theorem zr_15_7 : z_co 15 7 = (.newarray .int, 2, 0, 0, []) := rfl
theorem zr_15_9 : z_co 15 9 = (.putfield 11, 3, 3, 0, [273]) := rfl
theorem zr_15_12 : z_co 15 12 = (.aload_n 0, 1, 0, 0, []) := rfl
theorem zr_15_13 : z_co 15 13 = (.bipush 40, 2, 0, 0, []) := rfl
theorem zr_15_15 : z_co 15 15 = (.newarray .long, 2, 0, 0, []) := rfl
theorem zr_15_17 : z_co 15 17 = (.putfield 15, 3, 3, 1, [274]) := rfl
theorem zr_15_20 : z_co 15 20 = (.return_, 1, 0, 0, []) := rfl
theorem zr_16_0 : z_co 16 0 = (.aload_n 1, 1, 0, 0, []) := rfl
theorem zr_16_1 : z_co 16 1 = (.iload_n 2, 1, 0, 0, []) := rfl
theorem zr_16_2 : z_co 16 2 = (.invokevirtual 19, 3, 76, 0, [793, 557, 558]) := rfl
theorem zr_16_5 : z_co 16 5 = (.ifCond .eq 11, 3, 0, 0, []) := rfl
theorem zr_16_8 : z_co 16 8 = (.aload_n 1, 1, 0, 0, []) := rfl
theorem zr_16_9 : z_co 16 9 = (.iload_n 3, 1, 0, 0, []) := rfl
theorem zr_16_10 : z_co 16 10 = (.invokevirtual 25, 3, 75, 0, [794, 524, 525]) := rfl
theorem zr_16_13 : z_co 16 13 = (.ifCond .ne 5, 3, 0, 0, []) := rfl
theorem zr_16_16 : z_co 16 16 = (.iconst 0, 1, 0, 0, []) := rfl
theorem zr_16_17 : z_co 16 17 = (.ireturn, 1, 0, 0, []) := rfl
theorem zr_16_18 : z_co 16 18 = (.aload_n 0, 1, 0, 0, []) := rfl
theorem zr_16_19 : z_co 16 19 = (.getfield 11, 3, 3, 0, [273]) := rfl
theorem zr_16_22 : z_co 16 22 = (.iconst 0, 1, 0, 0, []) := rfl
theorem zr_16_23 : z_co 16 23 = (.iload_n 2, 1, 0, 0, []) := rfl
theorem zr_16_24 : z_co 16 24 = (.iastore, 1, 0, 0, []) := rfl
theorem zr_16_25 : z_co 16 25 = (.aload_n 0, 1, 0, 0, []) := rfl
theorem zr_16_26 : z_co 16 26 = (.getfield 11, 3, 3, 0, [273]) := rfl
theorem zr_16_29 : z_co 16 29 = (.iconst 1, 1, 0, 0, []) := rfl
theorem zr_16_30 : z_co 16 30 = (.iload 4, 2, 0, 0, []) := rfl
theorem zr_16_32 : z_co 16 32 = (.iastore, 1, 0, 0, []) := rfl
theorem zr_16_33 : z_co 16 33 = (.aload_n 0, 1, 0, 0, []) := rfl
theorem zr_16_34 : z_co 16 34 = (.getfield 11, 3, 3, 0, [273]) := rfl
theorem zr_16_37 : z_co 16 37 = (.iconst 2, 1, 0, 0, []) := rfl
theorem zr_16_38 : z_co 16 38 = (.aload_n 1, 1, 0, 0, []) := rfl
theorem zr_16_39 : z_co 16 39 = (.getfield 28, 3, 10, 0, [144]) := rfl
theorem zr_16_42 : z_co 16 42 = (.iconst 0, 1, 0, 0, []) := rfl
theorem zr_16_43 : z_co 16 43 = (.aaload, 1, 0, 0, []) := rfl
theorem zr_16_44 : z_co 16 44 = (.iload_n 3, 1, 0, 0, []) := rfl
theorem zr_16_45 : z_co 16 45 = (.iaload, 1, 0, 0, []) := rfl
theorem zr_16_46 : z_co 16 46 = (.iastore, 1, 0, 0, []) := rfl
theorem zr_16_47 : z_co 16 47 = (.aload_n 0, 1, 0, 0, []) := rfl
theorem zr_16_48 : z_co 16 48 = (.getfield 11, 3, 3, 0, [273]) := rfl
theorem zr_16_51 : z_co 16 51 = (.iconst 3, 1, 0, 0, []) := rfl
theorem zr_16_52 : z_co 16 52 = (.iload 5, 2, 0, 0, []) := rfl
theorem zr_16_54 : z_co 16 54 = (.iastore, 1, 0, 0, []) := rfl
theorem zr_16_55 : z_co 16 55 = (.aload_n 0, 1, 0, 0, []) := rfl
theorem zr_16_56 : z_co 16 56 = (.getfield 11, 3, 3, 0, [273]) := rfl
theorem zr_16_59 : z_co 16 59 = (.iconst 4, 1, 0, 0, []) := rfl
theorem zr_16_60 : z_co 16 60 = (.aload_n 1, 1, 0, 0, []) := rfl
theorem zr_16_61 : z_co 16 61 = (.getfield 32, 3, 10, 1, [149]) := rfl
theorem zr_16_64 : z_co 16 64 = (.iconst 1, 1, 0, 0, []) := rfl
theorem zr_16_65 : z_co 16 65 = (.aaload, 1, 0, 0, []) := rfl
theorem zr_16_66 : z_co 16 66 = (.iload_n 2, 1, 0, 0, []) := rfl
theorem zr_16_67 : z_co 16 67 = (.iaload, 1, 0, 0, []) := rfl
theorem zr_16_68 : z_co 16 68 = (.iastore, 1, 0, 0, []) := rfl
theorem zr_16_69 : z_co 16 69 = (.aload_n 0, 1, 0, 0, []) := rfl
theorem zr_16_70 : z_co 16 70 = (.getfield 11, 3, 3, 0, [273]) := rfl
theorem zr_16_73 : z_co 16 73 = (.iconst 5, 1, 0, 0, []) := rfl
theorem zr_16_74 : z_co 16 74 = (.aload_n 1, 1, 0, 0, []) := rfl
theorem zr_16_75 : z_co 16 75 = (.getfield 32, 3, 10, 1, [149]) := rfl
theorem zr_16_78 : z_co 16 78 = (.iconst 0, 1, 0, 0, []) := rfl
theorem zr_16_79 : z_co 16 79 = (.aaload, 1, 0, 0, []) := rfl
theorem zr_16_80 : z_co 16 80 = (.iload_n 2, 1, 0, 0, []) := rfl
theorem zr_16_81 : z_co 16 81 = (.iaload, 1, 0, 0, []) := rfl
theorem zr_16_82 : z_co 16 82 = (.iastore, 1, 0, 0, []) := rfl
theorem zr_16_83 : z_co 16 83 = (.aload_n 0, 1, 0, 0, []) := rfl
theorem zr_16_84 : z_co 16 84 = (.getfield 11, 3, 3, 0, [273]) := rfl
theorem zr_16_87 : z_co 16 87 = (.bipush 6, 2, 0, 0, []) := rfl
theorem zr_16_89 : z_co 16 89 = (.aload_n 1, 1, 0, 0, []) := rfl
theorem zr_16_90 : z_co 16 90 = (.getfield 35, 3, 10, 2, [153]) := rfl
theorem zr_16_93 : z_co 16 93 = (.iconst 0, 1, 0, 0, []) := rfl
theorem zr_16_94 : z_co 16 94 = (.iaload, 1, 0, 0, []) := rfl
theorem zr_16_95 : z_co 16 95 = (.iastore, 1, 0, 0, []) := rfl
theorem zr_16_96 : z_co 16 96 = (.aload_n 0, 1, 0, 0, []) := rfl
theorem zr_16_97 : z_co 16 97 = (.getfield 11, 3, 3, 0, [273]) := rfl
theorem zr_16_100 : z_co 16 100 = (.bipush 7, 2, 0, 0, []) := rfl
theorem zr_16_102 : z_co 16 102 = (.aload_n 1, 1, 0, 0, []) := rfl
theorem zr_16_103 : z_co 16 103 = (.getfield 28, 3, 10, 0, [144]) := rfl
theorem zr_16_106 : z_co 16 106 = (.iconst 2, 1, 0, 0, []) := rfl
theorem zr_16_107 : z_co 16 107 = (.aaload, 1, 0, 0, []) := rfl
theorem zr_16_108 : z_co 16 108 = (.iload_n 3, 1, 0, 0, []) := rfl
theorem zr_16_109 : z_co 16 109 = (.iaload, 1, 0, 0, []) := rfl
theorem zr_16_110 : z_co 16 110 = (.iastore, 1, 0, 0, []) := rfl
theorem zr_16_111 : z_co 16 111 = (.aload_n 0, 1, 0, 0, []) := rfl
theorem zr_16_112 : z_co 16 112 = (.getfield 11, 3, 3, 0, [273]) := rfl
theorem zr_16_115 : z_co 16 115 = (.bipush 8, 2, 0, 0, []) := rfl
theorem zr_16_117 : z_co 16 117 = (.aload_n 1, 1, 0, 0, []) := rfl
theorem zr_16_118 : z_co 16 118 = (.getfield 28, 3, 10, 0, [144]) := rfl
theorem zr_16_121 : z_co 16 121 = (.iconst 1, 1, 0, 0, []) := rfl
theorem zr_16_122 : z_co 16 122 = (.aaload, 1, 0, 0, []) := rfl
theorem zr_16_123 : z_co 16 123 = (.iload_n 3, 1, 0, 0, []) := rfl
theorem zr_16_124 : z_co 16 124 = (.iaload, 1, 0, 0, []) := rfl
theorem zr_16_125 : z_co 16 125 = (.iastore, 1, 0, 0, []) := rfl
theorem zr_16_126 : z_co 16 126 = (.aload_n 1, 1, 0, 0, []) := rfl
theorem zr_16_127 : z_co 16 127 = (.invokevirtual 38, 3, 85, 0, [795, 796, 797]) := rfl
theorem zr_16_130 : z_co 16 130 = (.astore 6, 2, 0, 0, []) := rfl
theorem zr_16_132 : z_co 16 132 = (.aload_n 0, 1, 0, 0, []) := rfl
theorem zr_16_133 : z_co 16 133 = (.aload_n 0, 1, 0, 0, []) := rfl
theorem zr_16_134 : z_co 16 134 = (.getfield 11, 3, 3, 0, [273]) := rfl
theorem zr_16_137 : z_co 16 137 = (.bipush 8, 2, 0, 0, []) := rfl
theorem zr_16_139 : z_co 16 139 = (.iaload, 1, 0, 0, []) := rfl
theorem zr_16_140 : z_co 16 140 = (.i2l, 1, 0, 0, []) := rfl
theorem zr_16_141 : z_co 16 141 = (.putfield 42, 3, 3, 6, [279]) := rfl
theorem zr_16_144 : z_co 16 144 = (.aload_n 0, 1, 0, 0, []) := rfl
theorem zr_16_145 : z_co 16 145 = (.iconst 0, 1, 0, 0, []) := rfl
theorem zr_16_146 : z_co 16 146 = (.putfield 46, 3, 3, 5, [278]) := rfl
theorem zr_16_149 : z_co 16 149 = (.aload 6, 2, 0, 0, []) := rfl
theorem zr_16_151 : z_co 16 151 = (.ifnonnull 7, 3, 0, 0, []) := rfl
theorem zr_16_154 : z_co 16 154 = (.iconst 0, 1, 0, 0, []) := rfl
theorem zr_16_155 : z_co 16 155 = (.goto 11, 3, 0, 0, []) := rfl
theorem zr_16_158 : z_co 16 158 = (.aload 6, 2, 0, 0, []) := rfl
theorem zr_16_160 : z_co 16 160 = (.getfield 50, 3, 4, 2, [764]) := rfl
theorem zr_16_163 : z_co 16 163 = (.arraylength, 1, 0, 0, []) := rfl
theorem zr_16_164 : z_co 16 164 = (.iconst 1, 1, 0, 0, []) := rfl
theorem zr_16_165 : z_co 16 165 = (.isub, 1, 0, 0, []) := rfl
theorem zr_16_166 : z_co 16 166 = (.istore 7, 2, 0, 0, []) := rfl
theorem zr_16_168 : z_co 16 168 = (.iconst 0, 1, 0, 0, []) := rfl
theorem zr_16_169 : z_co 16 169 = (.istore 8, 2, 0, 0, []) := rfl
theorem zr_16_171 : z_co 16 171 = (.iload 8, 2, 0, 0, []) := rfl
theorem zr_16_173 : z_co 16 173 = (.iload 7, 2, 0, 0, []) := rfl
theorem zr_16_175 : z_co 16 175 = (.if_icmp .ge 33, 3, 0, 0, []) := rfl
theorem zr_16_178 : z_co 16 178 = (.aload_n 0, 1, 0, 0, []) := rfl
theorem zr_16_179 : z_co 16 179 = (.aload 6, 2, 0, 0, []) := rfl
theorem zr_16_181 : z_co 16 181 = (.aload 6, 2, 0, 0, []) := rfl
theorem zr_16_183 : z_co 16 183 = (.getfield 50, 3, 4, 2, [764]) := rfl
theorem zr_16_186 : z_co 16 186 = (.iload 8, 2, 0, 0, []) := rfl
theorem zr_16_188 : z_co 16 188 = (.iaload, 1, 0, 0, []) := rfl
theorem zr_16_189 : z_co 16 189 = (.aload 6, 2, 0, 0, []) := rfl
theorem zr_16_191 : z_co 16 191 = (.getfield 50, 3, 4, 2, [764]) := rfl
theorem zr_16_194 : z_co 16 194 = (.iload 8, 2, 0, 0, []) := rfl
theorem zr_16_196 : z_co 16 196 = (.iconst 1, 1, 0, 0, []) := rfl
theorem zr_16_197 : z_co 16 197 = (.iadd, 1, 0, 0, []) := rfl
theorem zr_16_198 : z_co 16 198 = (.iaload, 1, 0, 0, []) := rfl
theorem zr_16_199 : z_co 16 199 = (.invokevirtual 55, 3, 17, 0, [799, 801, 22]) := rfl
theorem zr_16_202 : z_co 16 202 = (.iinc 8 1, 3, 0, 0, []) := rfl
theorem zr_16_205 : z_co 16 205 = (.goto (-34), 3, 0, 0, []) := rfl
theorem zr_16_208 : z_co 16 208 = (.aload_n 0, 1, 0, 0, []) := rfl
theorem zr_16_209 : z_co 16 209 = (.getfield 46, 3, 3, 5, [278]) := rfl
theorem zr_16_212 : z_co 16 212 = (.ifCond .ne 22, 3, 0, 0, []) := rfl
theorem zr_16_215 : z_co 16 215 = (.aload_n 0, 1, 0, 0, []) := rfl
theorem zr_16_216 : z_co 16 216 = (.getfield 42, 3, 3, 6, [279]) := rfl
theorem zr_16_219 : z_co 16 219 = (.aload_n 0, 1, 0, 0, []) := rfl
theorem zr_16_220 : z_co 16 220 = (.getfield 11, 3, 3, 0, [273]) := rfl
theorem zr_16_223 : z_co 16 223 = (.iconst 4, 1, 0, 0, []) := rfl
theorem zr_16_224 : z_co 16 224 = (.iaload, 1, 0, 0, []) := rfl
theorem zr_16_225 : z_co 16 225 = (.i2l, 1, 0, 0, []) := rfl
theorem zr_16_226 : z_co 16 226 = (.lcmp, 1, 0, 0, []) := rfl
theorem zr_16_227 : z_co 16 227 = (.ifCond .lt 7, 3, 0, 0, []) := rfl
theorem zr_16_230 : z_co 16 230 = (.iconst 1, 1, 0, 0, []) := rfl
theorem zr_16_231 : z_co 16 231 = (.goto 4, 3, 0, 0, []) := rfl
theorem zr_16_234 : z_co 16 234 = (.iconst 0, 1, 0, 0, []) := rfl
theorem zr_16_235 : z_co 16 235 = (.ireturn, 1, 0, 0, []) := rfl
theorem zr_17_0 : z_co 17 0 = (.aload_n 0, 1, 0, 0, []) := rfl
theorem zr_17_1 : z_co 17 1 = (.iconst 0, 1, 0, 0, []) := rfl
theorem zr_17_2 : z_co 17 2 = (.putfield 59, 3, 3, 2, [275]) := rfl
theorem zr_17_5 : z_co 17 5 = (.aload_n 0, 1, 0, 0, []) := rfl
theorem zr_17_6 : z_co 17 6 = (.iconst 0, 1, 0, 0, []) := rfl
theorem zr_17_7 : z_co 17 7 = (.putfield 63, 3, 3, 4, [277]) := rfl
theorem zr_17_10 : z_co 17 10 = (.aload_n 0, 1, 0, 0, []) := rfl
theorem zr_17_11 : z_co 17 11 = (.iload_n 2, 1, 0, 0, []) := rfl
theorem zr_17_12 : z_co 17 12 = (.putfield 66, 3, 3, 3, [276]) := rfl
theorem zr_17_15 : z_co 17 15 = (.iload_n 2, 1, 0, 0, []) := rfl
theorem zr_17_16 : z_co 17 16 = (.istore 4, 2, 0, 0, []) := rfl
theorem zr_17_18 : z_co 17 18 = (.iload 4, 2, 0, 0, []) := rfl
theorem zr_17_20 : z_co 17 20 = (.iload_n 3, 1, 0, 0, []) := rfl
theorem zr_17_21 : z_co 17 21 = (.if_icmp .ge 54, 3, 0, 0, []) := rfl
theorem zr_17_24 : z_co 17 24 = (.iload 4, 2, 0, 0, []) := rfl
theorem zr_17_26 : z_co 17 26 = (.aload_n 1, 1, 0, 0, []) := rfl
theorem zr_17_27 : z_co 17 27 = (.getfield 69, 3, 4, 0, [760]) := rfl
theorem zr_17_30 : z_co 17 30 = (.arraylength, 1, 0, 0, []) := rfl
theorem zr_17_31 : z_co 17 31 = (.if_icmp .ge 44, 3, 0, 0, []) := rfl
theorem zr_17_34 : z_co 17 34 = (.aload_n 0, 1, 0, 0, []) := rfl
theorem zr_17_35 : z_co 17 35 = (.getfield 63, 3, 3, 4, [277]) := rfl
theorem zr_17_38 : z_co 17 38 = (.ifCond .ne 37, 3, 0, 0, []) := rfl
theorem zr_17_41 : z_co 17 41 = (.iload 4, 2, 0, 0, []) := rfl
theorem zr_17_43 : z_co 17 43 = (.aload_n 0, 1, 0, 0, []) := rfl
theorem zr_17_44 : z_co 17 44 = (.getfield 66, 3, 3, 3, [276]) := rfl
theorem zr_17_47 : z_co 17 47 = (.if_icmp .lt 22, 3, 0, 0, []) := rfl
theorem zr_17_50 : z_co 17 50 = (.aload_n 0, 1, 0, 0, []) := rfl
theorem zr_17_51 : z_co 17 51 = (.aload_n 1, 1, 0, 0, []) := rfl
theorem zr_17_52 : z_co 17 52 = (.getfield 69, 3, 4, 0, [760]) := rfl
theorem zr_17_55 : z_co 17 55 = (.iload 4, 2, 0, 0, []) := rfl
theorem zr_17_57 : z_co 17 57 = (.iaload, 1, 0, 0, []) := rfl
theorem zr_17_58 : z_co 17 58 = (.aload_n 1, 1, 0, 0, []) := rfl
theorem zr_17_59 : z_co 17 59 = (.getfield 72, 3, 4, 1, [762]) := rfl
theorem zr_17_62 : z_co 17 62 = (.iload 4, 2, 0, 0, []) := rfl
theorem zr_17_64 : z_co 17 64 = (.iaload, 1, 0, 0, []) := rfl
theorem zr_17_65 : z_co 17 65 = (.iload_n 3, 1, 0, 0, []) := rfl
theorem zr_17_66 : z_co 17 66 = (.invokevirtual 75, 3, 18, 0, [803, 805, 23]) := rfl
theorem zr_17_69 : z_co 17 69 = (.iinc 4 1, 3, 0, 0, []) := rfl
theorem zr_17_72 : z_co 17 72 = (.goto (-54), 3, 0, 0, []) := rfl
theorem zr_17_75 : z_co 17 75 = (.return_, 1, 0, 0, []) := rfl
theorem zr_18_0 : z_co 18 0 = (.iload_n 1, 1, 0, 0, []) := rfl
theorem zr_18_1 : z_co 18 1 = (.tableswitch 191 0 14 #[75, 84, 191, 191, 191, 191, 191, 191, 191, 117, 130, 139, 148, 172, 183], 75, 0, 0, []) := rfl
theorem zr_18_76 : z_co 18 76 = (.aload_n 0, 1, 0, 0, []) := rfl
theorem zr_18_77 : z_co 18 77 = (.iload_n 2, 1, 0, 0, []) := rfl
theorem zr_18_78 : z_co 18 78 = (.i2l, 1, 0, 0, []) := rfl
theorem zr_18_79 : z_co 18 79 = (.invokevirtual 79, 3, 21, 0, [807, 809, 24]) := rfl
theorem zr_18_82 : z_co 18 82 = (.goto 135, 3, 0, 0, []) := rfl
theorem zr_18_85 : z_co 18 85 = (.aload_n 0, 1, 0, 0, []) := rfl
theorem zr_18_86 : z_co 18 86 = (.iload_n 2, 1, 0, 0, []) := rfl
theorem zr_18_87 : z_co 18 87 = (.iconst 0, 1, 0, 0, []) := rfl
theorem zr_18_88 : z_co 18 88 = (.aload_n 0, 1, 0, 0, []) := rfl
theorem zr_18_89 : z_co 18 89 = (.getfield 11, 3, 3, 0, [273]) := rfl
theorem zr_18_92 : z_co 18 92 = (.arraylength, 1, 0, 0, []) := rfl
theorem zr_18_93 : z_co 18 93 = (.iconst 1, 1, 0, 0, []) := rfl
theorem zr_18_94 : z_co 18 94 = (.isub, 1, 0, 0, []) := rfl
theorem zr_18_95 : z_co 18 95 = (.invokestatic 83, 3, 133, 1, [813, 497]) := rfl
theorem zr_18_98 : z_co 18 98 = (.ifCond .eq 13, 3, 0, 0, []) := rfl
theorem zr_18_101 : z_co 18 101 = (.aload_n 0, 1, 0, 0, []) := rfl
theorem zr_18_102 : z_co 18 102 = (.getfield 11, 3, 3, 0, [273]) := rfl
theorem zr_18_105 : z_co 18 105 = (.iload_n 2, 1, 0, 0, []) := rfl
theorem zr_18_106 : z_co 18 106 = (.iaload, 1, 0, 0, []) := rfl
theorem zr_18_107 : z_co 18 107 = (.i2l, 1, 0, 0, []) := rfl
theorem zr_18_108 : z_co 18 108 = (.goto 4, 3, 0, 0, []) := rfl
theorem zr_18_111 : z_co 18 111 = (.lconst 0, 1, 0, 0, []) := rfl
theorem zr_18_112 : z_co 18 112 = (.invokevirtual 79, 3, 21, 0, [807, 809, 24]) := rfl
theorem zr_18_115 : z_co 18 115 = (.goto 102, 3, 0, 0, []) := rfl
theorem zr_18_118 : z_co 18 118 = (.aload_n 0, 1, 0, 0, []) := rfl
theorem zr_18_119 : z_co 18 119 = (.lconst 1, 1, 0, 0, []) := rfl
theorem zr_18_120 : z_co 18 120 = (.aload_n 0, 1, 0, 0, []) := rfl
theorem zr_18_121 : z_co 18 121 = (.invokevirtual 87, 3, 22, 0, [814, 816, 25]) := rfl
theorem zr_18_124 : z_co 18 124 = (.lsub, 1, 0, 0, []) := rfl
theorem zr_18_125 : z_co 18 125 = (.invokevirtual 79, 3, 21, 0, [807, 809, 24]) := rfl
theorem zr_18_128 : z_co 18 128 = (.goto 89, 3, 0, 0, []) := rfl
theorem zr_18_131 : z_co 18 131 = (.aload_n 0, 1, 0, 0, []) := rfl
theorem zr_18_132 : z_co 18 132 = (.iconst 1, 1, 0, 0, []) := rfl
theorem zr_18_133 : z_co 18 133 = (.iload_n 2, 1, 0, 0, []) := rfl
theorem zr_18_134 : z_co 18 134 = (.invokevirtual 91, 3, 19, 0, [818, 820, 26]) := rfl
theorem zr_18_137 : z_co 18 137 = (.goto 80, 3, 0, 0, []) := rfl
theorem zr_18_140 : z_co 18 140 = (.aload_n 0, 1, 0, 0, []) := rfl
theorem zr_18_141 : z_co 18 141 = (.iconst 0, 1, 0, 0, []) := rfl
theorem zr_18_142 : z_co 18 142 = (.iload_n 2, 1, 0, 0, []) := rfl
theorem zr_18_143 : z_co 18 143 = (.invokevirtual 91, 3, 19, 0, [818, 820, 26]) := rfl
theorem zr_18_146 : z_co 18 146 = (.goto 71, 3, 0, 0, []) := rfl
theorem zr_18_149 : z_co 18 149 = (.aload_n 0, 1, 0, 0, []) := rfl
theorem zr_18_150 : z_co 18 150 = (.aload_n 0, 1, 0, 0, []) := rfl
theorem zr_18_151 : z_co 18 151 = (.invokevirtual 87, 3, 22, 0, [814, 816, 25]) := rfl
theorem zr_18_154 : z_co 18 154 = (.lconst 0, 1, 0, 0, []) := rfl
theorem zr_18_155 : z_co 18 155 = (.lcmp, 1, 0, 0, []) := rfl
theorem zr_18_156 : z_co 18 156 = (.ifCond .ne 7, 3, 0, 0, []) := rfl
theorem zr_18_159 : z_co 18 159 = (.iload_n 3, 1, 0, 0, []) := rfl
theorem zr_18_160 : z_co 18 160 = (.goto 7, 3, 0, 0, []) := rfl
theorem zr_18_163 : z_co 18 163 = (.aload_n 0, 1, 0, 0, []) := rfl
theorem zr_18_164 : z_co 18 164 = (.getfield 66, 3, 3, 3, [276]) := rfl
theorem zr_18_167 : z_co 18 167 = (.putfield 66, 3, 3, 3, [276]) := rfl
theorem zr_18_170 : z_co 18 170 = (.goto 47, 3, 0, 0, []) := rfl
theorem zr_18_173 : z_co 18 173 = (.aload_n 0, 1, 0, 0, []) := rfl
theorem zr_18_174 : z_co 18 174 = (.aload_n 0, 1, 0, 0, []) := rfl
theorem zr_18_175 : z_co 18 175 = (.invokevirtual 87, 3, 22, 0, [814, 816, 25]) := rfl
theorem zr_18_178 : z_co 18 178 = (.putfield 42, 3, 3, 6, [279]) := rfl
theorem zr_18_181 : z_co 18 181 = (.goto 36, 3, 0, 0, []) := rfl
theorem zr_18_184 : z_co 18 184 = (.aload_n 0, 1, 0, 0, []) := rfl
theorem zr_18_185 : z_co 18 185 = (.iconst 1, 1, 0, 0, []) := rfl
theorem zr_18_186 : z_co 18 186 = (.putfield 46, 3, 3, 5, [278]) := rfl
theorem zr_18_189 : z_co 18 189 = (.goto 28, 3, 0, 0, []) := rfl
theorem zr_18_192 : z_co 18 192 = (.aload_n 0, 1, 0, 0, []) := rfl
theorem zr_18_193 : z_co 18 193 = (.invokevirtual 87, 3, 22, 0, [814, 816, 25]) := rfl
theorem zr_18_196 : z_co 18 196 = (.lstore 4, 2, 0, 0, []) := rfl
theorem zr_18_198 : z_co 18 198 = (.aload_n 0, 1, 0, 0, []) := rfl
theorem zr_18_199 : z_co 18 199 = (.invokevirtual 87, 3, 22, 0, [814, 816, 25]) := rfl
theorem zr_18_202 : z_co 18 202 = (.lstore 6, 2, 0, 0, []) := rfl
theorem zr_18_204 : z_co 18 204 = (.aload_n 0, 1, 0, 0, []) := rfl
theorem zr_18_205 : z_co 18 205 = (.aload_n 0, 1, 0, 0, []) := rfl
theorem zr_18_206 : z_co 18 206 = (.iload_n 1, 1, 0, 0, []) := rfl
theorem zr_18_207 : z_co 18 207 = (.lload 6, 2, 0, 0, []) := rfl
theorem zr_18_209 : z_co 18 209 = (.lload 4, 2, 0, 0, []) := rfl
theorem zr_18_211 : z_co 18 211 = (.invokevirtual 95, 3, 20, 0, [822, 824, 27]) := rfl
theorem zr_18_214 : z_co 18 214 = (.invokevirtual 79, 3, 21, 0, [807, 809, 24]) := rfl
theorem zr_18_217 : z_co 18 217 = (.return_, 1, 0, 0, []) := rfl
theorem zr_19_0 : z_co 19 0 = (.aload_n 0, 1, 0, 0, []) := rfl
theorem zr_19_1 : z_co 19 1 = (.getfield 59, 3, 3, 2, [275]) := rfl
theorem zr_19_4 : z_co 19 4 = (.ifCond .le 28, 3, 0, 0, []) := rfl
theorem zr_19_7 : z_co 19 7 = (.aload_n 0, 1, 0, 0, []) := rfl
theorem zr_19_8 : z_co 19 8 = (.getfield 15, 3, 3, 1, [274]) := rfl
theorem zr_19_11 : z_co 19 11 = (.aload_n 0, 1, 0, 0, []) := rfl
theorem zr_19_12 : z_co 19 12 = (.getfield 59, 3, 3, 2, [275]) := rfl
theorem zr_19_15 : z_co 19 15 = (.iconst 1, 1, 0, 0, []) := rfl
theorem zr_19_16 : z_co 19 16 = (.isub, 1, 0, 0, []) := rfl
theorem zr_19_17 : z_co 19 17 = (.laload, 1, 0, 0, []) := rfl
theorem zr_19_18 : z_co 19 18 = (.iload_n 1, 1, 0, 0, []) := rfl
theorem zr_19_19 : z_co 19 19 = (.i2l, 1, 0, 0, []) := rfl
theorem zr_19_20 : z_co 19 20 = (.lcmp, 1, 0, 0, []) := rfl
theorem zr_19_21 : z_co 19 21 = (.ifCond .ne 11, 3, 0, 0, []) := rfl
theorem zr_19_24 : z_co 19 24 = (.aload_n 0, 1, 0, 0, []) := rfl
theorem zr_19_25 : z_co 19 25 = (.iload_n 2, 1, 0, 0, []) := rfl
theorem zr_19_26 : z_co 19 26 = (.putfield 66, 3, 3, 3, [276]) := rfl
theorem zr_19_29 : z_co 19 29 = (.goto 20, 3, 0, 0, []) := rfl
theorem zr_19_32 : z_co 19 32 = (.aload_n 0, 1, 0, 0, []) := rfl
theorem zr_19_33 : z_co 19 33 = (.getfield 59, 3, 3, 2, [275]) := rfl
theorem zr_19_36 : z_co 19 36 = (.ifCond .le 13, 3, 0, 0, []) := rfl
theorem zr_19_39 : z_co 19 39 = (.aload_n 0, 1, 0, 0, []) := rfl
theorem zr_19_40 : z_co 19 40 = (.dup, 1, 0, 0, []) := rfl
theorem zr_19_41 : z_co 19 41 = (.getfield 59, 3, 3, 2, [275]) := rfl
theorem zr_19_44 : z_co 19 44 = (.iconst 1, 1, 0, 0, []) := rfl
theorem zr_19_45 : z_co 19 45 = (.isub, 1, 0, 0, []) := rfl
theorem zr_19_46 : z_co 19 46 = (.putfield 59, 3, 3, 2, [275]) := rfl
theorem zr_19_49 : z_co 19 49 = (.return_, 1, 0, 0, []) := rfl
theorem zr_20_0 : z_co 20 0 = (.iload_n 1, 1, 0, 0, []) := rfl
theorem zr_20_1 : z_co 20 1 = (.tableswitch 119 2 7 #[39, 44, 49, 54, 93, 106], 39, 0, 0, []) := rfl
theorem zr_20_40 : z_co 20 40 = (.lload_n 2, 1, 0, 0, []) := rfl
theorem zr_20_41 : z_co 20 41 = (.lload 4, 2, 0, 0, []) := rfl
theorem zr_20_43 : z_co 20 43 = (.ladd, 1, 0, 0, []) := rfl
theorem zr_20_44 : z_co 20 44 = (.lreturn, 1, 0, 0, []) := rfl
theorem zr_20_45 : z_co 20 45 = (.lload_n 2, 1, 0, 0, []) := rfl
theorem zr_20_46 : z_co 20 46 = (.lload 4, 2, 0, 0, []) := rfl
theorem zr_20_48 : z_co 20 48 = (.lsub, 1, 0, 0, []) := rfl
theorem zr_20_49 : z_co 20 49 = (.lreturn, 1, 0, 0, []) := rfl
theorem zr_20_50 : z_co 20 50 = (.lload_n 2, 1, 0, 0, []) := rfl
theorem zr_20_51 : z_co 20 51 = (.lload 4, 2, 0, 0, []) := rfl
theorem zr_20_53 : z_co 20 53 = (.lmul, 1, 0, 0, []) := rfl
theorem zr_20_54 : z_co 20 54 = (.lreturn, 1, 0, 0, []) := rfl
theorem zr_20_55 : z_co 20 55 = (.aload_n 0, 1, 0, 0, []) := rfl
theorem zr_20_56 : z_co 20 56 = (.aload_n 0, 1, 0, 0, []) := rfl
theorem zr_20_57 : z_co 20 57 = (.getfield 63, 3, 3, 4, [277]) := rfl
theorem zr_20_60 : z_co 20 60 = (.ifCond .ne 10, 3, 0, 0, []) := rfl
theorem zr_20_63 : z_co 20 63 = (.lload 4, 2, 0, 0, []) := rfl
theorem zr_20_65 : z_co 20 65 = (.lconst 0, 1, 0, 0, []) := rfl
theorem zr_20_66 : z_co 20 66 = (.lcmp, 1, 0, 0, []) := rfl
theorem zr_20_67 : z_co 20 67 = (.ifCond .ne 7, 3, 0, 0, []) := rfl
theorem zr_20_70 : z_co 20 70 = (.iconst 1, 1, 0, 0, []) := rfl
theorem zr_20_71 : z_co 20 71 = (.goto 4, 3, 0, 0, []) := rfl
theorem zr_20_74 : z_co 20 74 = (.iconst 0, 1, 0, 0, []) := rfl
theorem zr_20_75 : z_co 20 75 = (.putfield 63, 3, 3, 4, [277]) := rfl
theorem zr_20_78 : z_co 20 78 = (.lload 4, 2, 0, 0, []) := rfl
theorem zr_20_80 : z_co 20 80 = (.lconst 0, 1, 0, 0, []) := rfl
theorem zr_20_81 : z_co 20 81 = (.lcmp, 1, 0, 0, []) := rfl
theorem zr_20_82 : z_co 20 82 = (.ifCond .ne 7, 3, 0, 0, []) := rfl
theorem zr_20_85 : z_co 20 85 = (.lconst 0, 1, 0, 0, []) := rfl
theorem zr_20_86 : z_co 20 86 = (.goto 7, 3, 0, 0, []) := rfl
theorem zr_20_89 : z_co 20 89 = (.lload_n 2, 1, 0, 0, []) := rfl
theorem zr_20_90 : z_co 20 90 = (.lload 4, 2, 0, 0, []) := rfl
theorem zr_20_92 : z_co 20 92 = (.ldiv, 1, 0, 0, []) := rfl
theorem zr_20_93 : z_co 20 93 = (.lreturn, 1, 0, 0, []) := rfl
theorem zr_20_94 : z_co 20 94 = (.lload_n 2, 1, 0, 0, []) := rfl
theorem zr_20_95 : z_co 20 95 = (.lload 4, 2, 0, 0, []) := rfl
theorem zr_20_97 : z_co 20 97 = (.lcmp, 1, 0, 0, []) := rfl
theorem zr_20_98 : z_co 20 98 = (.ifCond .ge 7, 3, 0, 0, []) := rfl
theorem zr_20_101 : z_co 20 101 = (.lconst 1, 1, 0, 0, []) := rfl
theorem zr_20_102 : z_co 20 102 = (.goto 4, 3, 0, 0, []) := rfl
theorem zr_20_105 : z_co 20 105 = (.lconst 0, 1, 0, 0, []) := rfl
theorem zr_20_106 : z_co 20 106 = (.lreturn, 1, 0, 0, []) := rfl
theorem zr_20_107 : z_co 20 107 = (.lload_n 2, 1, 0, 0, []) := rfl
theorem zr_20_108 : z_co 20 108 = (.lload 4, 2, 0, 0, []) := rfl
theorem zr_20_110 : z_co 20 110 = (.lcmp, 1, 0, 0, []) := rfl
theorem zr_20_111 : z_co 20 111 = (.ifCond .le 7, 3, 0, 0, []) := rfl
theorem zr_20_114 : z_co 20 114 = (.lconst 1, 1, 0, 0, []) := rfl
theorem zr_20_115 : z_co 20 115 = (.goto 4, 3, 0, 0, []) := rfl
theorem zr_20_118 : z_co 20 118 = (.lconst 0, 1, 0, 0, []) := rfl
theorem zr_20_119 : z_co 20 119 = (.lreturn, 1, 0, 0, []) := rfl
theorem zr_20_120 : z_co 20 120 = (.lload_n 2, 1, 0, 0, []) := rfl
theorem zr_20_121 : z_co 20 121 = (.lload 4, 2, 0, 0, []) := rfl
theorem zr_20_123 : z_co 20 123 = (.lcmp, 1, 0, 0, []) := rfl
theorem zr_20_124 : z_co 20 124 = (.ifCond .ne 7, 3, 0, 0, []) := rfl
theorem zr_20_127 : z_co 20 127 = (.lconst 1, 1, 0, 0, []) := rfl
theorem zr_20_128 : z_co 20 128 = (.goto 4, 3, 0, 0, []) := rfl
theorem zr_20_131 : z_co 20 131 = (.lconst 0, 1, 0, 0, []) := rfl
theorem zr_20_132 : z_co 20 132 = (.lreturn, 1, 0, 0, []) := rfl
theorem zr_21_0 : z_co 21 0 = (.lload_n 1, 1, 0, 0, []) := rfl
theorem zr_21_1 : z_co 21 1 = (.ldc2_w 99, 3, 1000000000, 0, [811]) := rfl
theorem zr_21_4 : z_co 21 4 = (.lcmp, 1, 0, 0, []) := rfl
theorem zr_21_5 : z_co 21 5 = (.ifCond .gt 23, 3, 0, 0, []) := rfl
theorem zr_21_8 : z_co 21 8 = (.lload_n 1, 1, 0, 0, []) := rfl
theorem zr_21_9 : z_co 21 9 = (.ldc2_w 101, 3, 1000000000, 1, [812]) := rfl
theorem zr_21_12 : z_co 21 12 = (.lcmp, 1, 0, 0, []) := rfl
theorem zr_21_13 : z_co 21 13 = (.ifCond .lt 15, 3, 0, 0, []) := rfl
theorem zr_21_16 : z_co 21 16 = (.aload_n 0, 1, 0, 0, []) := rfl
theorem zr_21_17 : z_co 21 17 = (.getfield 59, 3, 3, 2, [275]) := rfl
theorem zr_21_20 : z_co 21 20 = (.aload_n 0, 1, 0, 0, []) := rfl
theorem zr_21_21 : z_co 21 21 = (.getfield 15, 3, 3, 1, [274]) := rfl
theorem zr_21_24 : z_co 21 24 = (.arraylength, 1, 0, 0, []) := rfl
theorem zr_21_25 : z_co 21 25 = (.if_icmp .lt 9, 3, 0, 0, []) := rfl
theorem zr_21_28 : z_co 21 28 = (.aload_n 0, 1, 0, 0, []) := rfl
theorem zr_21_29 : z_co 21 29 = (.iconst 1, 1, 0, 0, []) := rfl
theorem zr_21_30 : z_co 21 30 = (.putfield 63, 3, 3, 4, [277]) := rfl
theorem zr_21_33 : z_co 21 33 = (.return_, 1, 0, 0, []) := rfl
theorem zr_21_34 : z_co 21 34 = (.aload_n 0, 1, 0, 0, []) := rfl
theorem zr_21_35 : z_co 21 35 = (.getfield 15, 3, 3, 1, [274]) := rfl
theorem zr_21_38 : z_co 21 38 = (.aload_n 0, 1, 0, 0, []) := rfl
theorem zr_21_39 : z_co 21 39 = (.getfield 59, 3, 3, 2, [275]) := rfl
theorem zr_21_42 : z_co 21 42 = (.lload_n 1, 1, 0, 0, []) := rfl
theorem zr_21_43 : z_co 21 43 = (.lastore, 1, 0, 0, []) := rfl
theorem zr_21_44 : z_co 21 44 = (.aload_n 0, 1, 0, 0, []) := rfl
theorem zr_21_45 : z_co 21 45 = (.dup, 1, 0, 0, []) := rfl
theorem zr_21_46 : z_co 21 46 = (.getfield 59, 3, 3, 2, [275]) := rfl
theorem zr_21_49 : z_co 21 49 = (.iconst 1, 1, 0, 0, []) := rfl
theorem zr_21_50 : z_co 21 50 = (.iadd, 1, 0, 0, []) := rfl
theorem zr_21_51 : z_co 21 51 = (.putfield 59, 3, 3, 2, [275]) := rfl
theorem zr_21_54 : z_co 21 54 = (.return_, 1, 0, 0, []) := rfl
theorem zr_22_0 : z_co 22 0 = (.aload_n 0, 1, 0, 0, []) := rfl
theorem zr_22_1 : z_co 22 1 = (.getfield 59, 3, 3, 2, [275]) := rfl
theorem zr_22_4 : z_co 22 4 = (.ifCond .gt 5, 3, 0, 0, []) := rfl
theorem zr_22_7 : z_co 22 7 = (.lconst 0, 1, 0, 0, []) := rfl
theorem zr_22_8 : z_co 22 8 = (.lreturn, 1, 0, 0, []) := rfl
theorem zr_22_9 : z_co 22 9 = (.aload_n 0, 1, 0, 0, []) := rfl
theorem zr_22_10 : z_co 22 10 = (.dup, 1, 0, 0, []) := rfl
theorem zr_22_11 : z_co 22 11 = (.getfield 59, 3, 3, 2, [275]) := rfl
theorem zr_22_14 : z_co 22 14 = (.iconst 1, 1, 0, 0, []) := rfl
theorem zr_22_15 : z_co 22 15 = (.isub, 1, 0, 0, []) := rfl
theorem zr_22_16 : z_co 22 16 = (.putfield 59, 3, 3, 2, [275]) := rfl
theorem zr_22_19 : z_co 22 19 = (.aload_n 0, 1, 0, 0, []) := rfl
theorem zr_22_20 : z_co 22 20 = (.getfield 15, 3, 3, 1, [274]) := rfl
theorem zr_22_23 : z_co 22 23 = (.aload_n 0, 1, 0, 0, []) := rfl
theorem zr_22_24 : z_co 22 24 = (.getfield 59, 3, 3, 2, [275]) := rfl
theorem zr_22_27 : z_co 22 27 = (.laload, 1, 0, 0, []) := rfl
theorem zr_22_28 : z_co 22 28 = (.lreturn, 1, 0, 0, []) := rfl
theorem zr_23_0 : z_co 23 0 = (.aload_n 0, 1, 0, 0, []) := rfl
theorem zr_23_1 : z_co 23 1 = (.invokespecial 1, 3, 1000, 0, [758, 131, 132]) := rfl
theorem zr_23_4 : z_co 23 4 = (.aload_n 0, 1, 0, 0, []) := rfl
theorem zr_23_5 : z_co 23 5 = (.aload_n 1, 1, 0, 0, []) := rfl
theorem zr_23_6 : z_co 23 6 = (.putfield 7, 3, 4, 0, [759]) := rfl
theorem zr_23_9 : z_co 23 9 = (.aload_n 0, 1, 0, 0, []) := rfl
theorem zr_23_10 : z_co 23 10 = (.aload_n 2, 1, 0, 0, []) := rfl
theorem zr_23_11 : z_co 23 11 = (.putfield 13, 3, 4, 1, [761]) := rfl
theorem zr_23_14 : z_co 23 14 = (.aload_n 0, 1, 0, 0, []) := rfl
theorem zr_23_15 : z_co 23 15 = (.aload_n 3, 1, 0, 0, []) := rfl
theorem zr_23_16 : z_co 23 16 = (.putfield 16, 3, 4, 2, [763]) := rfl
theorem zr_23_19 : z_co 23 19 = (.return_, 1, 0, 0, []) := rfl
theorem zr_24_0 : z_co 24 0 = (.aload_n 0, 1, 0, 0, []) := rfl
theorem zr_24_1 : z_co 24 1 = (.invokespecial 3, 3, 1000, 0, [234, 131, 132]) := rfl
theorem zr_24_4 : z_co 24 4 = (.aload_n 0, 1, 0, 0, []) := rfl
theorem zr_24_5 : z_co 24 5 = (.sipush 400, 3, 0, 0, []) := rfl
theorem zr_24_8 : z_co 24 8 = (.newarray .int, 2, 0, 0, []) := rfl
theorem zr_24_10 : z_co 24 10 = (.putfield 9, 3, 5, 0, [235]) := rfl
theorem zr_24_13 : z_co 24 13 = (.aload_n 0, 1, 0, 0, []) := rfl
theorem zr_24_14 : z_co 24 14 = (.sipush 400, 3, 0, 0, []) := rfl
theorem zr_24_17 : z_co 24 17 = (.newarray .int, 2, 0, 0, []) := rfl
theorem zr_24_19 : z_co 24 19 = (.putfield 15, 3, 5, 1, [236]) := rfl
theorem zr_24_22 : z_co 24 22 = (.aload_n 0, 1, 0, 0, []) := rfl
theorem zr_24_23 : z_co 24 23 = (.bipush 13, 2, 0, 0, []) := rfl
theorem zr_24_25 : z_co 24 25 = (.newarray .int, 2, 0, 0, []) := rfl
theorem zr_24_27 : z_co 24 27 = (.putfield 20, 3, 5, 2, [237]) := rfl
theorem zr_24_30 : z_co 24 30 = (.aload_n 0, 1, 0, 0, []) := rfl
theorem zr_24_31 : z_co 24 31 = (.iconst 0, 1, 0, 0, []) := rfl
theorem zr_24_32 : z_co 24 32 = (.newarray .int, 2, 0, 0, []) := rfl
theorem zr_24_34 : z_co 24 34 = (.putfield 23, 3, 5, 5, [240]) := rfl
theorem zr_24_37 : z_co 24 37 = (.aload_n 0, 1, 0, 0, []) := rfl
theorem zr_24_38 : z_co 24 38 = (.iconst (-1), 1, 0, 0, []) := rfl
theorem zr_24_39 : z_co 24 39 = (.putfield 26, 3, 5, 9, [244]) := rfl
theorem zr_24_42 : z_co 24 42 = (.return_, 1, 0, 0, []) := rfl
theorem zr_25_0 : z_co 25 0 = (.aload_n 0, 1, 0, 0, []) := rfl
theorem zr_25_1 : z_co 25 1 = (.aload_n 1, 1, 0, 0, []) := rfl
theorem zr_25_2 : z_co 25 2 = (.getfield 30, 3, 9, 0, [218]) := rfl
theorem zr_25_5 : z_co 25 5 = (.putfield 23, 3, 5, 5, [240]) := rfl
theorem zr_25_8 : z_co 25 8 = (.aload_n 0, 1, 0, 0, []) := rfl
theorem zr_25_9 : z_co 25 9 = (.aload_n 1, 1, 0, 0, []) := rfl
theorem zr_25_10 : z_co 25 10 = (.getfield 33, 3, 9, 1, [221]) := rfl
theorem zr_25_13 : z_co 25 13 = (.aload_n 1, 1, 0, 0, []) := rfl
theorem zr_25_14 : z_co 25 14 = (.getfield 30, 3, 9, 0, [218]) := rfl
theorem zr_25_17 : z_co 25 17 = (.arraylength, 1, 0, 0, []) := rfl
theorem zr_25_18 : z_co 25 18 = (.invokestatic 36, 3, 261, 0, [598, 599]) := rfl
theorem zr_25_21 : z_co 25 21 = (.putfield 42, 3, 5, 6, [241]) := rfl
theorem zr_25_24 : z_co 25 24 = (.aload_n 0, 1, 0, 0, []) := rfl
theorem zr_25_25 : z_co 25 25 = (.iconst 0, 1, 0, 0, []) := rfl
theorem zr_25_26 : z_co 25 26 = (.putfield 43, 3, 5, 3, [238]) := rfl
theorem zr_25_29 : z_co 25 29 = (.aload_n 0, 1, 0, 0, []) := rfl
theorem zr_25_30 : z_co 25 30 = (.iconst 0, 1, 0, 0, []) := rfl
theorem zr_25_31 : z_co 25 31 = (.putfield 46, 3, 5, 4, [239]) := rfl
theorem zr_25_34 : z_co 25 34 = (.aload_n 0, 1, 0, 0, []) := rfl
theorem zr_25_35 : z_co 25 35 = (.iconst 0, 1, 0, 0, []) := rfl
theorem zr_25_36 : z_co 25 36 = (.putfield 49, 3, 5, 8, [243]) := rfl
theorem zr_25_39 : z_co 25 39 = (.aload_n 0, 1, 0, 0, []) := rfl
theorem zr_25_40 : z_co 25 40 = (.iconst (-1), 1, 0, 0, []) := rfl
theorem zr_25_41 : z_co 25 41 = (.putfield 26, 3, 5, 9, [244]) := rfl
theorem zr_25_44 : z_co 25 44 = (.aload_n 0, 1, 0, 0, []) := rfl
theorem zr_25_45 : z_co 25 45 = (.invokevirtual 52, 3, 40, 0, [601, 603, 4]) := rfl
theorem zr_25_48 : z_co 25 48 = (.iconst 0, 1, 0, 0, []) := rfl
theorem zr_25_49 : z_co 25 49 = (.istore_n 2, 1, 0, 0, []) := rfl
theorem zr_25_50 : z_co 25 50 = (.iload_n 2, 1, 0, 0, []) := rfl
theorem zr_25_51 : z_co 25 51 = (.bipush 12, 2, 0, 0, []) := rfl
theorem zr_25_53 : z_co 25 53 = (.if_icmp .ge 102, 3, 0, 0, []) := rfl
theorem zr_25_56 : z_co 25 56 = (.aload_n 0, 1, 0, 0, []) := rfl
theorem zr_25_57 : z_co 25 57 = (.getfield 20, 3, 5, 2, [237]) := rfl
theorem zr_25_60 : z_co 25 60 = (.iload_n 2, 1, 0, 0, []) := rfl
theorem zr_25_61 : z_co 25 61 = (.aload_n 0, 1, 0, 0, []) := rfl
theorem zr_25_62 : z_co 25 62 = (.getfield 43, 3, 5, 3, [238]) := rfl
theorem zr_25_65 : z_co 25 65 = (.iastore, 1, 0, 0, []) := rfl
theorem zr_25_66 : z_co 25 66 = (.aload_n 0, 1, 0, 0, []) := rfl
theorem zr_25_67 : z_co 25 67 = (.invokevirtual 55, 3, 26, 0, [612, 614, 6]) := rfl
theorem zr_25_70 : z_co 25 70 = (.ifCond .ne 5, 3, 0, 0, []) := rfl
theorem zr_25_73 : z_co 25 73 = (.aconst_null, 1, 0, 0, []) := rfl
theorem zr_25_74 : z_co 25 74 = (.areturn, 1, 0, 0, []) := rfl
theorem zr_25_75 : z_co 25 75 = (.aload_n 0, 1, 0, 0, []) := rfl
theorem zr_25_76 : z_co 25 76 = (.getfield 20, 3, 5, 2, [237]) := rfl
theorem zr_25_79 : z_co 25 79 = (.iload_n 2, 1, 0, 0, []) := rfl
theorem zr_25_80 : z_co 25 80 = (.iconst 1, 1, 0, 0, []) := rfl
theorem zr_25_81 : z_co 25 81 = (.iadd, 1, 0, 0, []) := rfl
theorem zr_25_82 : z_co 25 82 = (.aload_n 0, 1, 0, 0, []) := rfl
theorem zr_25_83 : z_co 25 83 = (.getfield 43, 3, 5, 3, [238]) := rfl
theorem zr_25_86 : z_co 25 86 = (.iastore, 1, 0, 0, []) := rfl
theorem zr_25_87 : z_co 25 87 = (.aload_n 0, 1, 0, 0, []) := rfl
theorem zr_25_88 : z_co 25 88 = (.getfield 59, 3, 5, 7, [242]) := rfl
theorem zr_25_91 : z_co 25 91 = (.aload_n 0, 1, 0, 0, []) := rfl
theorem zr_25_92 : z_co 25 92 = (.getfield 42, 3, 5, 6, [241]) := rfl
theorem zr_25_95 : z_co 25 95 = (.if_icmp .lt 43, 3, 0, 0, []) := rfl
theorem zr_25_98 : z_co 25 98 = (.new 18, 3, 4, 0, [739, 740, 121]) := rfl
theorem zr_25_101 : z_co 25 101 = (.dup, 1, 0, 0, []) := rfl
theorem zr_25_102 : z_co 25 102 = (.aload_n 0, 1, 0, 0, []) := rfl
theorem zr_25_103 : z_co 25 103 = (.getfield 9, 3, 5, 0, [235]) := rfl
theorem zr_25_106 : z_co 25 106 = (.aload_n 0, 1, 0, 0, []) := rfl
theorem zr_25_107 : z_co 25 107 = (.getfield 43, 3, 5, 3, [238]) := rfl
theorem zr_25_110 : z_co 25 110 = (.invokestatic 62, 3, 258, 0, [741, 742]) := rfl
theorem zr_25_113 : z_co 25 113 = (.aload_n 0, 1, 0, 0, []) := rfl
theorem zr_25_114 : z_co 25 114 = (.getfield 15, 3, 5, 1, [236]) := rfl
theorem zr_25_117 : z_co 25 117 = (.aload_n 0, 1, 0, 0, []) := rfl
theorem zr_25_118 : z_co 25 118 = (.getfield 43, 3, 5, 3, [238]) := rfl
theorem zr_25_121 : z_co 25 121 = (.invokestatic 62, 3, 258, 0, [741, 742]) := rfl
theorem zr_25_124 : z_co 25 124 = (.aload_n 0, 1, 0, 0, []) := rfl
theorem zr_25_125 : z_co 25 125 = (.getfield 20, 3, 5, 2, [237]) := rfl
theorem zr_25_128 : z_co 25 128 = (.iload_n 2, 1, 0, 0, []) := rfl
theorem zr_25_129 : z_co 25 129 = (.iconst 2, 1, 0, 0, []) := rfl
theorem zr_25_130 : z_co 25 130 = (.iadd, 1, 0, 0, []) := rfl
theorem zr_25_131 : z_co 25 131 = (.invokestatic 62, 3, 258, 0, [741, 742]) := rfl
theorem zr_25_134 : z_co 25 134 = (.invokespecial 68, 3, 23, 0, [755, 756]) := rfl
theorem zr_25_137 : z_co 25 137 = (.areturn, 1, 0, 0, []) := rfl
theorem zr_25_138 : z_co 25 138 = (.aload_n 0, 1, 0, 0, []) := rfl
theorem zr_25_139 : z_co 25 139 = (.bipush 59, 2, 0, 0, []) := rfl
theorem zr_25_141 : z_co 25 141 = (.invokevirtual 71, 3, 39, 0, [690, 692, 13]) := rfl
theorem zr_25_144 : z_co 25 144 = (.ifCond .ne 5, 3, 0, 0, []) := rfl
theorem zr_25_147 : z_co 25 147 = (.aconst_null, 1, 0, 0, []) := rfl
theorem zr_25_148 : z_co 25 148 = (.areturn, 1, 0, 0, []) := rfl
theorem zr_25_149 : z_co 25 149 = (.iinc 2 1, 3, 0, 0, []) := rfl
theorem zr_25_152 : z_co 25 152 = (.goto (-102), 3, 0, 0, []) := rfl
theorem zr_25_155 : z_co 25 155 = (.aload_n 0, 1, 0, 0, []) := rfl
theorem zr_25_156 : z_co 25 156 = (.invokevirtual 75, 3, 38, 0, [670, 672, 8]) := rfl
theorem zr_25_159 : z_co 25 159 = (.pop, 1, 0, 0, []) := rfl
theorem zr_25_160 : z_co 25 160 = (.aconst_null, 1, 0, 0, []) := rfl
theorem zr_25_161 : z_co 25 161 = (.areturn, 1, 0, 0, []) := rfl
