/-! the rows: printed by a program -/
theorem zr_139_0 : z_co 139 0 = (.aload_n 0, 1, 0, 0, []) := rfl
theorem zr_139_1 : z_co 139 1 = (.getfield 48, 3, 11, 6, [446]) := rfl
theorem zr_139_4 : z_co 139 4 = (.aload_n 0, 1, 0, 0, []) := rfl
theorem zr_139_5 : z_co 139 5 = (.getfield 12, 3, 11, 0, [440]) := rfl
theorem zr_139_8 : z_co 139 8 = (.getstatic 250, 3, 6, 0, [834]) := rfl
theorem zr_139_11 : z_co 139 11 = (.invokevirtual 316, 3, 48, 0, [836, 837, 838]) := rfl
theorem zr_139_14 : z_co 139 14 = (.iconst 0, 1, 0, 0, []) := rfl
theorem zr_139_15 : z_co 139 15 = (.istore_n 1, 1, 0, 0, []) := rfl
theorem zr_139_16 : z_co 139 16 = (.iload_n 1, 1, 0, 0, []) := rfl
theorem zr_139_17 : z_co 139 17 = (.aload_n 0, 1, 0, 0, []) := rfl
theorem zr_139_18 : z_co 139 18 = (.getfield 12, 3, 11, 0, [440]) := rfl
theorem zr_139_21 : z_co 139 21 = (.getfield 259, 3, 10, 8, [171]) := rfl
theorem zr_139_24 : z_co 139 24 = (.if_icmp .ge 25, 3, 0, 0, []) := rfl
theorem zr_139_27 : z_co 139 27 = (.aload_n 0, 1, 0, 0, []) := rfl
theorem zr_139_28 : z_co 139 28 = (.getfield 48, 3, 11, 6, [446]) := rfl
theorem zr_139_31 : z_co 139 31 = (.aload_n 0, 1, 0, 0, []) := rfl
theorem zr_139_32 : z_co 139 32 = (.getfield 12, 3, 11, 0, [440]) := rfl
theorem zr_139_35 : z_co 139 35 = (.aload_n 0, 1, 0, 0, []) := rfl
theorem zr_139_36 : z_co 139 36 = (.getfield 41, 3, 11, 5, [445]) := rfl
theorem zr_139_39 : z_co 139 39 = (.iload_n 1, 1, 0, 0, []) := rfl
theorem zr_139_40 : z_co 139 40 = (.invokevirtual 320, 3, 49, 0, [845, 846, 847]) := rfl
theorem zr_139_43 : z_co 139 43 = (.iinc 1 1, 3, 0, 0, []) := rfl
theorem zr_139_46 : z_co 139 46 = (.goto (-30), 3, 0, 0, []) := rfl
theorem zr_139_49 : z_co 139 49 = (.return_, 1, 0, 0, []) := rfl
theorem zr_140_0 : z_co 140 0 = (.aload_n 0, 1, 0, 0, []) := rfl
theorem zr_140_1 : z_co 140 1 = (.invokevirtual 226, 3, 139, 0, [957, 959, 34]) := rfl
theorem zr_140_4 : z_co 140 4 = (.aload_n 0, 1, 0, 0, []) := rfl
theorem zr_140_5 : z_co 140 5 = (.getfield 48, 3, 11, 6, [446]) := rfl
theorem zr_140_8 : z_co 140 8 = (.aload_n 0, 1, 0, 0, []) := rfl
theorem zr_140_9 : z_co 140 9 = (.getfield 12, 3, 11, 0, [440]) := rfl
theorem zr_140_12 : z_co 140 12 = (.getstatic 250, 3, 6, 0, [834]) := rfl
theorem zr_140_15 : z_co 140 15 = (.invokevirtual 324, 3, 61, 0, [961, 962, 963]) := rfl
theorem zr_140_18 : z_co 140 18 = (.ireturn, 1, 0, 0, []) := rfl
theorem zr_141_0 : z_co 141 0 = (.aload_n 0, 1, 0, 0, []) := rfl
theorem zr_141_1 : z_co 141 1 = (.getfield 12, 3, 11, 0, [440]) := rfl
theorem zr_141_4 : z_co 141 4 = (.iload_n 2, 1, 0, 0, []) := rfl
theorem zr_141_5 : z_co 141 5 = (.invokevirtual 135, 3, 76, 0, [556, 557, 558]) := rfl
theorem zr_141_8 : z_co 141 8 = (.ifCond .eq 13, 3, 0, 0, []) := rfl
theorem zr_141_11 : z_co 141 11 = (.aload_n 0, 1, 0, 0, []) := rfl
theorem zr_141_12 : z_co 141 12 = (.getfield 12, 3, 11, 0, [440]) := rfl
theorem zr_141_15 : z_co 141 15 = (.getfield 236, 3, 10, 7, [166]) := rfl
theorem zr_141_18 : z_co 141 18 = (.ifCond .ne 5, 3, 0, 0, []) := rfl
theorem zr_141_21 : z_co 141 21 = (.iconst (-1), 1, 0, 0, []) := rfl
theorem zr_141_22 : z_co 141 22 = (.ireturn, 1, 0, 0, []) := rfl
theorem zr_141_23 : z_co 141 23 = (.aload_n 0, 1, 0, 0, []) := rfl
theorem zr_141_24 : z_co 141 24 = (.iload_n 2, 1, 0, 0, []) := rfl
theorem zr_141_25 : z_co 141 25 = (.invokevirtual 179, 3, 138, 0, [830, 832, 28]) := rfl
theorem zr_141_28 : z_co 141 28 = (.aload_n 0, 1, 0, 0, []) := rfl
theorem zr_141_29 : z_co 141 29 = (.getfield 55, 3, 11, 7, [447]) := rfl
theorem zr_141_32 : z_co 141 32 = (.aload_n 0, 1, 0, 0, []) := rfl
theorem zr_141_33 : z_co 141 33 = (.getfield 48, 3, 11, 6, [446]) := rfl
theorem zr_141_36 : z_co 141 36 = (.iload_n 2, 1, 0, 0, []) := rfl
theorem zr_141_37 : z_co 141 37 = (.iload_n 1, 1, 0, 0, []) := rfl
theorem zr_141_38 : z_co 141 38 = (.invokevirtual 328, 3, 8, 0, [890, 891, 892]) := rfl
theorem zr_141_41 : z_co 141 41 = (.aload_n 0, 1, 0, 0, []) := rfl
theorem zr_141_42 : z_co 141 42 = (.getfield 55, 3, 11, 7, [447]) := rfl
theorem zr_141_45 : z_co 141 45 = (.iload_n 3, 1, 0, 0, []) := rfl
theorem zr_141_46 : z_co 141 46 = (.invokevirtual 332, 3, 10, 0, [920, 921, 922]) := rfl
theorem zr_141_49 : z_co 141 49 = (.ireturn, 1, 0, 0, []) := rfl
theorem zr_142_0 : z_co 142 0 = (.iconst 0, 1, 0, 0, []) := rfl
theorem zr_142_1 : z_co 142 1 = (.istore_n 2, 1, 0, 0, []) := rfl
theorem zr_142_2 : z_co 142 2 = (.iconst 0, 1, 0, 0, []) := rfl
theorem zr_142_3 : z_co 142 3 = (.istore_n 3, 1, 0, 0, []) := rfl
theorem zr_142_4 : z_co 142 4 = (.iload_n 3, 1, 0, 0, []) := rfl
theorem zr_142_5 : z_co 142 5 = (.aload_n 0, 1, 0, 0, []) := rfl
theorem zr_142_6 : z_co 142 6 = (.getfield 12, 3, 11, 0, [440]) := rfl
theorem zr_142_9 : z_co 142 9 = (.getfield 259, 3, 10, 8, [171]) := rfl
theorem zr_142_12 : z_co 142 12 = (.if_icmp .ge 40, 3, 0, 0, []) := rfl
theorem zr_142_15 : z_co 142 15 = (.iload_n 1, 1, 0, 0, []) := rfl
theorem zr_142_16 : z_co 142 16 = (.iload_n 3, 1, 0, 0, []) := rfl
theorem zr_142_17 : z_co 142 17 = (.ishr, 1, 0, 0, []) := rfl
theorem zr_142_18 : z_co 142 18 = (.iconst 1, 1, 0, 0, []) := rfl
theorem zr_142_19 : z_co 142 19 = (.iand, 1, 0, 0, []) := rfl
theorem zr_142_20 : z_co 142 20 = (.ifCond .eq 26, 3, 0, 0, []) := rfl
theorem zr_142_23 : z_co 142 23 = (.aload_n 0, 1, 0, 0, []) := rfl
theorem zr_142_24 : z_co 142 24 = (.getfield 48, 3, 11, 6, [446]) := rfl
theorem zr_142_27 : z_co 142 27 = (.iload_n 3, 1, 0, 0, []) := rfl
theorem zr_142_28 : z_co 142 28 = (.invokevirtual 334, 3, 58, 0, [1079, 1080, 1081]) := rfl
theorem zr_142_31 : z_co 142 31 = (.istore 4, 2, 0, 0, []) := rfl
theorem zr_142_33 : z_co 142 33 = (.iload 4, 2, 0, 0, []) := rfl
theorem zr_142_35 : z_co 142 35 = (.iconst (-1), 1, 0, 0, []) := rfl
theorem zr_142_36 : z_co 142 36 = (.if_icmp .ne 5, 3, 0, 0, []) := rfl
theorem zr_142_39 : z_co 142 39 = (.iconst (-1), 1, 0, 0, []) := rfl
theorem zr_142_40 : z_co 142 40 = (.ireturn, 1, 0, 0, []) := rfl
theorem zr_142_41 : z_co 142 41 = (.iload_n 2, 1, 0, 0, []) := rfl
theorem zr_142_42 : z_co 142 42 = (.iload 4, 2, 0, 0, []) := rfl
theorem zr_142_44 : z_co 142 44 = (.ior, 1, 0, 0, []) := rfl
theorem zr_142_45 : z_co 142 45 = (.istore_n 2, 1, 0, 0, []) := rfl
theorem zr_142_46 : z_co 142 46 = (.iinc 3 1, 3, 0, 0, []) := rfl
theorem zr_142_49 : z_co 142 49 = (.goto (-45), 3, 0, 0, []) := rfl
theorem zr_142_52 : z_co 142 52 = (.iload_n 2, 1, 0, 0, []) := rfl
theorem zr_142_53 : z_co 142 53 = (.ireturn, 1, 0, 0, []) := rfl
theorem zr_143_0 : z_co 143 0 = (.iconst 0, 1, 0, 0, []) := rfl
theorem zr_143_1 : z_co 143 1 = (.istore_n 1, 1, 0, 0, []) := rfl
theorem zr_143_2 : z_co 143 2 = (.aload_n 0, 1, 0, 0, []) := rfl
theorem zr_143_3 : z_co 143 3 = (.getfield 12, 3, 11, 0, [440]) := rfl
theorem zr_143_6 : z_co 143 6 = (.getfield 236, 3, 10, 7, [166]) := rfl
theorem zr_143_9 : z_co 143 9 = (.iconst 1, 1, 0, 0, []) := rfl
theorem zr_143_10 : z_co 143 10 = (.isub, 1, 0, 0, []) := rfl
theorem zr_143_11 : z_co 143 11 = (.istore_n 2, 1, 0, 0, []) := rfl
theorem zr_143_12 : z_co 143 12 = (.iload_n 2, 1, 0, 0, []) := rfl
theorem zr_143_13 : z_co 143 13 = (.ifCond .lt 76, 3, 0, 0, []) := rfl
theorem zr_143_16 : z_co 143 16 = (.iconst 0, 1, 0, 0, []) := rfl
theorem zr_143_17 : z_co 143 17 = (.istore_n 3, 1, 0, 0, []) := rfl
theorem zr_143_18 : z_co 143 18 = (.iload_n 2, 1, 0, 0, []) := rfl
theorem zr_143_19 : z_co 143 19 = (.iconst 1, 1, 0, 0, []) := rfl
theorem zr_143_20 : z_co 143 20 = (.iadd, 1, 0, 0, []) := rfl
theorem zr_143_21 : z_co 143 21 = (.istore 4, 2, 0, 0, []) := rfl
theorem zr_143_23 : z_co 143 23 = (.iload 4, 2, 0, 0, []) := rfl
theorem zr_143_25 : z_co 143 25 = (.aload_n 0, 1, 0, 0, []) := rfl
theorem zr_143_26 : z_co 143 26 = (.getfield 12, 3, 11, 0, [440]) := rfl
theorem zr_143_29 : z_co 143 29 = (.getfield 236, 3, 10, 7, [166]) := rfl
theorem zr_143_32 : z_co 143 32 = (.if_icmp .ge 34, 3, 0, 0, []) := rfl
theorem zr_143_35 : z_co 143 35 = (.aload_n 0, 1, 0, 0, []) := rfl
theorem zr_143_36 : z_co 143 36 = (.getfield 12, 3, 11, 0, [440]) := rfl
theorem zr_143_39 : z_co 143 39 = (.iload_n 2, 1, 0, 0, []) := rfl
theorem zr_143_40 : z_co 143 40 = (.iload 4, 2, 0, 0, []) := rfl
theorem zr_143_42 : z_co 143 42 = (.invokevirtual 273, 3, 89, 0, [1093, 1094, 1095]) := rfl
theorem zr_143_45 : z_co 143 45 = (.ifCond .eq 15, 3, 0, 0, []) := rfl
theorem zr_143_48 : z_co 143 48 = (.iload_n 3, 1, 0, 0, []) := rfl
theorem zr_143_49 : z_co 143 49 = (.aload_n 0, 1, 0, 0, []) := rfl
theorem zr_143_50 : z_co 143 50 = (.getfield 80, 3, 11, 11, [451]) := rfl
theorem zr_143_53 : z_co 143 53 = (.iload 4, 2, 0, 0, []) := rfl
theorem zr_143_55 : z_co 143 55 = (.iaload, 1, 0, 0, []) := rfl
theorem zr_143_56 : z_co 143 56 = (.invokestatic 337, 3, 260, 0, [1097, 610]) := rfl
theorem zr_143_59 : z_co 143 59 = (.istore_n 3, 1, 0, 0, []) := rfl
theorem zr_143_60 : z_co 143 60 = (.iinc 4 1, 3, 0, 0, []) := rfl
theorem zr_143_63 : z_co 143 63 = (.goto (-40), 3, 0, 0, []) := rfl
theorem zr_143_66 : z_co 143 66 = (.aload_n 0, 1, 0, 0, []) := rfl
theorem zr_143_67 : z_co 143 67 = (.getfield 80, 3, 11, 11, [451]) := rfl
theorem zr_143_70 : z_co 143 70 = (.iload_n 2, 1, 0, 0, []) := rfl
theorem zr_143_71 : z_co 143 71 = (.iload_n 3, 1, 0, 0, []) := rfl
theorem zr_143_72 : z_co 143 72 = (.iconst 1, 1, 0, 0, []) := rfl
theorem zr_143_73 : z_co 143 73 = (.iadd, 1, 0, 0, []) := rfl
theorem zr_143_74 : z_co 143 74 = (.iastore, 1, 0, 0, []) := rfl
theorem zr_143_75 : z_co 143 75 = (.iload_n 1, 1, 0, 0, []) := rfl
theorem zr_143_76 : z_co 143 76 = (.iload_n 3, 1, 0, 0, []) := rfl
theorem zr_143_77 : z_co 143 77 = (.iconst 1, 1, 0, 0, []) := rfl
theorem zr_143_78 : z_co 143 78 = (.iadd, 1, 0, 0, []) := rfl
theorem zr_143_79 : z_co 143 79 = (.invokestatic 337, 3, 260, 0, [1097, 610]) := rfl
theorem zr_143_82 : z_co 143 82 = (.istore_n 1, 1, 0, 0, []) := rfl
theorem zr_143_83 : z_co 143 83 = (.iinc 2 (-1), 3, 0, 0, []) := rfl
theorem zr_143_86 : z_co 143 86 = (.goto (-74), 3, 0, 0, []) := rfl
theorem zr_143_89 : z_co 143 89 = (.iload_n 1, 1, 0, 0, []) := rfl
theorem zr_143_90 : z_co 143 90 = (.ireturn, 1, 0, 0, []) := rfl
theorem zr_144_0 : z_co 144 0 = (.aload_n 0, 1, 0, 0, []) := rfl
theorem zr_144_1 : z_co 144 1 = (.invokespecial 1, 3, 1000, 0, [1180, 131, 132]) := rfl
theorem zr_144_4 : z_co 144 4 = (.aload_n 0, 1, 0, 0, []) := rfl
theorem zr_144_5 : z_co 144 5 = (.bipush 7, 2, 0, 0, []) := rfl
theorem zr_144_7 : z_co 144 7 = (.newarray .int, 2, 0, 0, []) := rfl
theorem zr_144_9 : z_co 144 9 = (.putfield 7, 3, 12, 2, [1192]) := rfl
theorem zr_144_12 : z_co 144 12 = (.aload_n 0, 1, 0, 0, []) := rfl
theorem zr_144_13 : z_co 144 13 = (.sipush 5490, 3, 0, 0, []) := rfl
theorem zr_144_16 : z_co 144 16 = (.newarray .int, 2, 0, 0, []) := rfl
theorem zr_144_18 : z_co 144 18 = (.putfield 13, 3, 12, 3, [1193]) := rfl
theorem zr_144_21 : z_co 144 21 = (.aload_n 0, 1, 0, 0, []) := rfl
theorem zr_144_22 : z_co 144 22 = (.sipush 10980, 3, 0, 0, []) := rfl
theorem zr_144_25 : z_co 144 25 = (.newarray .int, 2, 0, 0, []) := rfl
theorem zr_144_27 : z_co 144 27 = (.putfield 16, 3, 12, 4, [1194]) := rfl
theorem zr_144_30 : z_co 144 30 = (.aload_n 0, 1, 0, 0, []) := rfl
theorem zr_144_31 : z_co 144 31 = (.iconst 2, 1, 0, 0, []) := rfl
theorem zr_144_32 : z_co 144 32 = (.newarray .boolean, 2, 0, 0, []) := rfl
theorem zr_144_34 : z_co 144 34 = (.putfield 19, 3, 12, 5, [1195]) := rfl
theorem zr_144_37 : z_co 144 37 = (.aload_n 0, 1, 0, 0, []) := rfl
theorem zr_144_38 : z_co 144 38 = (.sipush 400, 3, 0, 0, []) := rfl
theorem zr_144_41 : z_co 144 41 = (.newarray .int, 2, 0, 0, []) := rfl
theorem zr_144_43 : z_co 144 43 = (.putfield 23, 3, 12, 7, [1197]) := rfl
theorem zr_144_46 : z_co 144 46 = (.aload_n 0, 1, 0, 0, []) := rfl
theorem zr_144_47 : z_co 144 47 = (.iconst (-1), 1, 0, 0, []) := rfl
theorem zr_144_48 : z_co 144 48 = (.putfield 26, 3, 12, 13, [1203]) := rfl
theorem zr_144_51 : z_co 144 51 = (.aload_n 0, 1, 0, 0, []) := rfl
theorem zr_144_52 : z_co 144 52 = (.bipush 96, 2, 0, 0, []) := rfl
theorem zr_144_54 : z_co 144 54 = (.newarray .int, 2, 0, 0, []) := rfl
theorem zr_144_56 : z_co 144 56 = (.putfield 30, 3, 12, 16, [1206]) := rfl
theorem zr_144_59 : z_co 144 59 = (.aload_n 0, 1, 0, 0, []) := rfl
theorem zr_144_60 : z_co 144 60 = (.sipush 400, 3, 0, 0, []) := rfl
theorem zr_144_63 : z_co 144 63 = (.newarray .int, 2, 0, 0, []) := rfl
theorem zr_144_65 : z_co 144 65 = (.putfield 33, 3, 12, 18, [1208]) := rfl
theorem zr_144_68 : z_co 144 68 = (.aload_n 0, 1, 0, 0, []) := rfl
theorem zr_144_69 : z_co 144 69 = (.sipush 400, 3, 0, 0, []) := rfl
theorem zr_144_72 : z_co 144 72 = (.newarray .int, 2, 0, 0, []) := rfl
theorem zr_144_74 : z_co 144 74 = (.putfield 36, 3, 12, 19, [1209]) := rfl
theorem zr_144_77 : z_co 144 77 = (.aload_n 0, 1, 0, 0, []) := rfl
theorem zr_144_78 : z_co 144 78 = (.sipush 400, 3, 0, 0, []) := rfl
theorem zr_144_81 : z_co 144 81 = (.newarray .int, 2, 0, 0, []) := rfl
theorem zr_144_83 : z_co 144 83 = (.putfield 39, 3, 12, 21, [1211]) := rfl
theorem zr_144_86 : z_co 144 86 = (.aload_n 0, 1, 0, 0, []) := rfl
theorem zr_144_87 : z_co 144 87 = (.sipush 400, 3, 0, 0, []) := rfl
theorem zr_144_90 : z_co 144 90 = (.newarray .int, 2, 0, 0, []) := rfl
theorem zr_144_92 : z_co 144 92 = (.putfield 42, 3, 12, 22, [1212]) := rfl
theorem zr_144_95 : z_co 144 95 = (.aload_n 0, 1, 0, 0, []) := rfl
theorem zr_144_96 : z_co 144 96 = (.bipush 9, 2, 0, 0, []) := rfl
theorem zr_144_98 : z_co 144 98 = (.newarray .long, 2, 0, 0, []) := rfl
theorem zr_144_100 : z_co 144 100 = (.dup, 1, 0, 0, []) := rfl
theorem zr_144_101 : z_co 144 101 = (.iconst 0, 1, 0, 0, []) := rfl
theorem zr_144_102 : z_co 144 102 = (.ldc2_w 45, 3, 609259698, 0, [1181]) := rfl
theorem zr_144_105 : z_co 144 105 = (.lastore, 1, 0, 0, []) := rfl
theorem zr_144_106 : z_co 144 106 = (.dup, 1, 0, 0, []) := rfl
theorem zr_144_107 : z_co 144 107 = (.iconst 1, 1, 0, 0, []) := rfl
theorem zr_144_108 : z_co 144 108 = (.ldc2_w 47, 3, 21566500, 0, [1182]) := rfl
theorem zr_144_111 : z_co 144 111 = (.lastore, 1, 0, 0, []) := rfl
theorem zr_144_112 : z_co 144 112 = (.dup, 1, 0, 0, []) := rfl
theorem zr_144_113 : z_co 144 113 = (.iconst 2, 1, 0, 0, []) := rfl
theorem zr_144_114 : z_co 144 114 = (.ldc2_w 49, 3, 21242987, 0, [1183]) := rfl
theorem zr_144_117 : z_co 144 117 = (.lastore, 1, 0, 0, []) := rfl
theorem zr_144_118 : z_co 144 118 = (.dup, 1, 0, 0, []) := rfl
theorem zr_144_119 : z_co 144 119 = (.iconst 3, 1, 0, 0, []) := rfl
theorem zr_144_120 : z_co 144 120 = (.ldc2_w 51, 3, 12769452, 0, [1184]) := rfl
theorem zr_144_123 : z_co 144 123 = (.lastore, 1, 0, 0, []) := rfl
theorem zr_144_124 : z_co 144 124 = (.dup, 1, 0, 0, []) := rfl
theorem zr_144_125 : z_co 144 125 = (.iconst 4, 1, 0, 0, []) := rfl
theorem zr_144_126 : z_co 144 126 = (.ldc2_w 53, 3, 777297172, 0, [1185]) := rfl
theorem zr_144_129 : z_co 144 129 = (.lastore, 1, 0, 0, []) := rfl
theorem zr_144_130 : z_co 144 130 = (.dup, 1, 0, 0, []) := rfl
theorem zr_144_131 : z_co 144 131 = (.iconst 5, 1, 0, 0, []) := rfl
theorem zr_144_132 : z_co 144 132 = (.ldc2_w 55, 3, 659104901, 0, [1186]) := rfl
theorem zr_144_135 : z_co 144 135 = (.lastore, 1, 0, 0, []) := rfl
theorem zr_144_136 : z_co 144 136 = (.dup, 1, 0, 0, []) := rfl
theorem zr_144_137 : z_co 144 137 = (.bipush 6, 2, 0, 0, []) := rfl
theorem zr_144_139 : z_co 144 139 = (.ldc2_w 57, 3, 278194, 0, [1187]) := rfl
theorem zr_144_142 : z_co 144 142 = (.lastore, 1, 0, 0, []) := rfl
theorem zr_144_143 : z_co 144 143 = (.dup, 1, 0, 0, []) := rfl
theorem zr_144_144 : z_co 144 144 = (.bipush 7, 2, 0, 0, []) := rfl
theorem zr_144_146 : z_co 144 146 = (.ldc2_w 59, 3, 153204, 0, [1188]) := rfl
theorem zr_144_149 : z_co 144 149 = (.lastore, 1, 0, 0, []) := rfl
theorem zr_144_150 : z_co 144 150 = (.dup, 1, 0, 0, []) := rfl
theorem zr_144_151 : z_co 144 151 = (.bipush 8, 2, 0, 0, []) := rfl
theorem zr_144_153 : z_co 144 153 = (.ldc2_w 61, 3, 2262611, 0, [1189]) := rfl
theorem zr_144_156 : z_co 144 156 = (.lastore, 1, 0, 0, []) := rfl
theorem zr_144_157 : z_co 144 157 = (.putfield 63, 3, 12, 25, [1215]) := rfl
theorem zr_144_160 : z_co 144 160 = (.aload_n 0, 1, 0, 0, []) := rfl
theorem zr_144_161 : z_co 144 161 = (.bipush 13, 2, 0, 0, []) := rfl
theorem zr_144_163 : z_co 144 163 = (.newarray .long, 2, 0, 0, []) := rfl
theorem zr_144_165 : z_co 144 165 = (.putfield 67, 3, 12, 27, [1217]) := rfl
theorem zr_144_168 : z_co 144 168 = (.aload_n 0, 1, 0, 0, []) := rfl
theorem zr_144_169 : z_co 144 169 = (.sipush 400, 3, 0, 0, []) := rfl
theorem zr_144_172 : z_co 144 172 = (.newarray .long, 2, 0, 0, []) := rfl
theorem zr_144_174 : z_co 144 174 = (.putfield 70, 3, 12, 28, [1218]) := rfl
theorem zr_144_177 : z_co 144 177 = (.aload_n 0, 1, 0, 0, []) := rfl
theorem zr_144_178 : z_co 144 178 = (.bipush 12, 2, 0, 0, []) := rfl
theorem zr_144_180 : z_co 144 180 = (.newarray .int, 2, 0, 0, []) := rfl
theorem zr_144_182 : z_co 144 182 = (.putfield 73, 3, 12, 32, [1222]) := rfl
theorem zr_144_185 : z_co 144 185 = (.aload_n 0, 1, 0, 0, []) := rfl
theorem zr_144_186 : z_co 144 186 = (.bipush 12, 2, 0, 0, []) := rfl
theorem zr_144_188 : z_co 144 188 = (.newarray .int, 2, 0, 0, []) := rfl
theorem zr_144_190 : z_co 144 190 = (.putfield 76, 3, 12, 33, [1223]) := rfl
theorem zr_144_193 : z_co 144 193 = (.aload_n 0, 1, 0, 0, []) := rfl
theorem zr_144_194 : z_co 144 194 = (.bipush 6, 2, 0, 0, []) := rfl
theorem zr_144_196 : z_co 144 196 = (.newarray .int, 2, 0, 0, []) := rfl
theorem zr_144_198 : z_co 144 198 = (.putfield 79, 3, 12, 34, [1224]) := rfl
theorem zr_144_201 : z_co 144 201 = (.aload_n 0, 1, 0, 0, []) := rfl
theorem zr_144_202 : z_co 144 202 = (.bipush 7, 2, 0, 0, []) := rfl
theorem zr_144_204 : z_co 144 204 = (.newarray .int, 2, 0, 0, []) := rfl
theorem zr_144_206 : z_co 144 206 = (.putfield 82, 3, 12, 35, [1225]) := rfl
theorem zr_144_209 : z_co 144 209 = (.aload_n 0, 1, 0, 0, []) := rfl
theorem zr_144_210 : z_co 144 210 = (.bipush 13, 2, 0, 0, []) := rfl
theorem zr_144_212 : z_co 144 212 = (.newarray .int, 2, 0, 0, []) := rfl
theorem zr_144_214 : z_co 144 214 = (.putfield 85, 3, 12, 37, [1227]) := rfl
theorem zr_144_217 : z_co 144 217 = (.aload_n 0, 1, 0, 0, []) := rfl
theorem zr_144_218 : z_co 144 218 = (.bipush 14, 2, 0, 0, []) := rfl
theorem zr_144_220 : z_co 144 220 = (.newarray .int, 2, 0, 0, []) := rfl
theorem zr_144_222 : z_co 144 222 = (.putfield 88, 3, 12, 38, [1228]) := rfl
theorem zr_144_225 : z_co 144 225 = (.aload_n 0, 1, 0, 0, []) := rfl
theorem zr_144_226 : z_co 144 226 = (.sipush 169, 3, 0, 0, []) := rfl
theorem zr_144_229 : z_co 144 229 = (.newarray .int, 2, 0, 0, []) := rfl
theorem zr_144_231 : z_co 144 231 = (.putfield 91, 3, 12, 39, [1229]) := rfl
theorem zr_144_234 : z_co 144 234 = (.aload_n 0, 1, 0, 0, []) := rfl
theorem zr_144_235 : z_co 144 235 = (.bipush 6, 2, 0, 0, []) := rfl
theorem zr_144_237 : z_co 144 237 = (.newarray .int, 2, 0, 0, []) := rfl
theorem zr_144_239 : z_co 144 239 = (.putfield 94, 3, 12, 43, [1233]) := rfl
theorem zr_144_242 : z_co 144 242 = (.aload_n 0, 1, 0, 0, []) := rfl
theorem zr_144_243 : z_co 144 243 = (.bipush 7, 2, 0, 0, []) := rfl
theorem zr_144_245 : z_co 144 245 = (.newarray .int, 2, 0, 0, []) := rfl
theorem zr_144_247 : z_co 144 247 = (.putfield 97, 3, 12, 45, [1235]) := rfl
theorem zr_144_250 : z_co 144 250 = (.aload_n 0, 1, 0, 0, []) := rfl
theorem zr_144_251 : z_co 144 251 = (.bipush 7, 2, 0, 0, []) := rfl
theorem zr_144_253 : z_co 144 253 = (.newarray .int, 2, 0, 0, []) := rfl
theorem zr_144_255 : z_co 144 255 = (.putfield 100, 3, 12, 46, [1236]) := rfl
theorem zr_144_258 : z_co 144 258 = (.aload_n 0, 1, 0, 0, []) := rfl
theorem zr_144_259 : z_co 144 259 = (.bipush 48, 2, 0, 0, []) := rfl
theorem zr_144_261 : z_co 144 261 = (.newarray .int, 2, 0, 0, []) := rfl
theorem zr_144_263 : z_co 144 263 = (.putfield 103, 3, 12, 50, [1240]) := rfl
theorem zr_144_266 : z_co 144 266 = (.aload_n 0, 1, 0, 0, []) := rfl
theorem zr_144_267 : z_co 144 267 = (.bipush 6, 2, 0, 0, []) := rfl
theorem zr_144_269 : z_co 144 269 = (.newarray .int, 2, 0, 0, []) := rfl
theorem zr_144_271 : z_co 144 271 = (.putfield 106, 3, 12, 51, [1241]) := rfl
theorem zr_144_274 : z_co 144 274 = (.aload_n 0, 1, 0, 0, []) := rfl
theorem zr_144_275 : z_co 144 275 = (.bipush 12, 2, 0, 0, []) := rfl
theorem zr_144_277 : z_co 144 277 = (.newarray .int, 2, 0, 0, []) := rfl
theorem zr_144_279 : z_co 144 279 = (.putfield 109, 3, 12, 52, [1242]) := rfl
theorem zr_144_282 : z_co 144 282 = (.aload_n 0, 1, 0, 0, []) := rfl
theorem zr_144_283 : z_co 144 283 = (.bipush 60, 2, 0, 0, []) := rfl
theorem zr_144_285 : z_co 144 285 = (.newarray .int, 2, 0, 0, []) := rfl
theorem zr_144_287 : z_co 144 287 = (.putfield 112, 3, 12, 54, [1244]) := rfl
theorem zr_144_290 : z_co 144 290 = (.aload_n 0, 1, 0, 0, []) := rfl
theorem zr_144_291 : z_co 144 291 = (.getfield 13, 3, 12, 3, [1193]) := rfl
theorem zr_144_294 : z_co 144 294 = (.iconst 3, 1, 0, 0, []) := rfl
theorem zr_144_295 : z_co 144 295 = (.iconst (-1), 1, 0, 0, []) := rfl
theorem zr_144_296 : z_co 144 296 = (.iastore, 1, 0, 0, []) := rfl
theorem zr_144_297 : z_co 144 297 = (.aload_n 0, 1, 0, 0, []) := rfl
theorem zr_144_298 : z_co 144 298 = (.getfield 13, 3, 12, 3, [1193]) := rfl
theorem zr_144_301 : z_co 144 301 = (.bipush 6, 2, 0, 0, []) := rfl
theorem zr_144_303 : z_co 144 303 = (.bipush 9, 2, 0, 0, []) := rfl
theorem zr_144_305 : z_co 144 305 = (.iastore, 1, 0, 0, []) := rfl
theorem zr_144_306 : z_co 144 306 = (.return_, 1, 0, 0, []) := rfl
theorem zr_145_0 : z_co 145 0 = (.lload_n 0, 1, 0, 0, []) := rfl
theorem zr_145_1 : z_co 145 1 = (.lload_n 2, 1, 0, 0, []) := rfl
theorem zr_145_2 : z_co 145 2 = (.lcmp, 1, 0, 0, []) := rfl
theorem zr_145_3 : z_co 145 3 = (.ifCond .lt 14, 3, 0, 0, []) := rfl
theorem zr_145_6 : z_co 145 6 = (.lload_n 0, 1, 0, 0, []) := rfl
theorem zr_145_7 : z_co 145 7 = (.lload 4, 2, 0, 0, []) := rfl
theorem zr_145_9 : z_co 145 9 = (.lcmp, 1, 0, 0, []) := rfl
theorem zr_145_10 : z_co 145 10 = (.ifCond .gt 7, 3, 0, 0, []) := rfl
theorem zr_145_13 : z_co 145 13 = (.iconst 1, 1, 0, 0, []) := rfl
theorem zr_145_14 : z_co 145 14 = (.goto 4, 3, 0, 0, []) := rfl
theorem zr_145_17 : z_co 145 17 = (.iconst 0, 1, 0, 0, []) := rfl
theorem zr_145_18 : z_co 145 18 = (.ireturn, 1, 0, 0, []) := rfl
theorem zr_146_0 : z_co 146 0 = (.iload_n 0, 1, 0, 0, []) := rfl
theorem zr_146_1 : z_co 146 1 = (.iload_n 1, 1, 0, 0, []) := rfl
theorem zr_146_2 : z_co 146 2 = (.ishr, 1, 0, 0, []) := rfl
theorem zr_146_3 : z_co 146 3 = (.iconst 1, 1, 0, 0, []) := rfl
theorem zr_146_4 : z_co 146 4 = (.iand, 1, 0, 0, []) := rfl
theorem zr_146_5 : z_co 146 5 = (.iconst 1, 1, 0, 0, []) := rfl
theorem zr_146_6 : z_co 146 6 = (.if_icmp .ne 7, 3, 0, 0, []) := rfl
theorem zr_146_9 : z_co 146 9 = (.iconst 1, 1, 0, 0, []) := rfl
theorem zr_146_10 : z_co 146 10 = (.goto 4, 3, 0, 0, []) := rfl
theorem zr_146_13 : z_co 146 13 = (.iconst 0, 1, 0, 0, []) := rfl
theorem zr_146_14 : z_co 146 14 = (.ireturn, 1, 0, 0, []) := rfl
theorem zr_147_0 : z_co 147 0 = (.iconst 0, 1, 0, 0, []) := rfl
theorem zr_147_1 : z_co 147 1 = (.istore_n 1, 1, 0, 0, []) := rfl
theorem zr_147_2 : z_co 147 2 = (.iconst 0, 1, 0, 0, []) := rfl
theorem zr_147_3 : z_co 147 3 = (.istore_n 2, 1, 0, 0, []) := rfl
theorem zr_147_4 : z_co 147 4 = (.iload_n 2, 1, 0, 0, []) := rfl
theorem zr_147_5 : z_co 147 5 = (.bipush 12, 2, 0, 0, []) := rfl
theorem zr_147_7 : z_co 147 7 = (.if_icmp .ge 17, 3, 0, 0, []) := rfl
theorem zr_147_10 : z_co 147 10 = (.iload_n 1, 1, 0, 0, []) := rfl
theorem zr_147_11 : z_co 147 11 = (.iload_n 0, 1, 0, 0, []) := rfl
theorem zr_147_12 : z_co 147 12 = (.iload_n 2, 1, 0, 0, []) := rfl
theorem zr_147_13 : z_co 147 13 = (.ishr, 1, 0, 0, []) := rfl
theorem zr_147_14 : z_co 147 14 = (.iconst 1, 1, 0, 0, []) := rfl
theorem zr_147_15 : z_co 147 15 = (.iand, 1, 0, 0, []) := rfl
theorem zr_147_16 : z_co 147 16 = (.iadd, 1, 0, 0, []) := rfl
theorem zr_147_17 : z_co 147 17 = (.istore_n 1, 1, 0, 0, []) := rfl
theorem zr_147_18 : z_co 147 18 = (.iinc 2 1, 3, 0, 0, []) := rfl
theorem zr_147_21 : z_co 147 21 = (.goto (-17), 3, 0, 0, []) := rfl
theorem zr_147_24 : z_co 147 24 = (.iload_n 1, 1, 0, 0, []) := rfl
theorem zr_147_25 : z_co 147 25 = (.ireturn, 1, 0, 0, []) := rfl
theorem zr_148_0 : z_co 148 0 = (.iload_n 0, 1, 0, 0, []) := rfl
theorem zr_148_1 : z_co 148 1 = (.ifCond .ge 8, 3, 0, 0, []) := rfl
theorem zr_148_4 : z_co 148 4 = (.iload_n 0, 1, 0, 0, []) := rfl
theorem zr_148_5 : z_co 148 5 = (.ineg, 1, 0, 0, []) := rfl
theorem zr_148_6 : z_co 148 6 = (.goto 4, 3, 0, 0, []) := rfl
theorem zr_148_9 : z_co 148 9 = (.iload_n 0, 1, 0, 0, []) := rfl
theorem zr_148_10 : z_co 148 10 = (.ireturn, 1, 0, 0, []) := rfl
theorem zr_149_0 : z_co 149 0 = (.aload_n 0, 1, 0, 0, []) := rfl
theorem zr_149_1 : z_co 149 1 = (.iload_n 1, 1, 0, 0, []) := rfl
theorem zr_149_2 : z_co 149 2 = (.ifCond .ge 7, 3, 0, 0, []) := rfl
theorem zr_149_5 : z_co 149 5 = (.iload_n 1, 1, 0, 0, []) := rfl
theorem zr_149_6 : z_co 149 6 = (.goto 4, 3, 0, 0, []) := rfl
theorem zr_149_9 : z_co 149 9 = (.iconst 0, 1, 0, 0, []) := rfl
theorem zr_149_10 : z_co 149 10 = (.putfield 118, 3, 12, 1, [1191]) := rfl
theorem zr_149_13 : z_co 149 13 = (.iload_n 1, 1, 0, 0, []) := rfl
theorem zr_149_14 : z_co 149 14 = (.ifCond .ge 14, 3, 0, 0, []) := rfl
theorem zr_149_17 : z_co 149 17 = (.aload_n 0, 1, 0, 0, []) := rfl
theorem zr_149_18 : z_co 149 18 = (.getfield 7, 3, 12, 2, [1192]) := rfl
theorem zr_149_21 : z_co 149 21 = (.iload_n 1, 1, 0, 0, []) := rfl
theorem zr_149_22 : z_co 149 22 = (.ineg, 1, 0, 0, []) := rfl
theorem zr_149_23 : z_co 149 23 = (.dup2, 1, 0, 0, []) := rfl
theorem zr_149_24 : z_co 149 24 = (.iaload, 1, 0, 0, []) := rfl
theorem zr_149_25 : z_co 149 25 = (.iconst 1, 1, 0, 0, []) := rfl
theorem zr_149_26 : z_co 149 26 = (.iadd, 1, 0, 0, []) := rfl
theorem zr_149_27 : z_co 149 27 = (.iastore, 1, 0, 0, []) := rfl
theorem zr_149_28 : z_co 149 28 = (.iload_n 1, 1, 0, 0, []) := rfl
theorem zr_149_29 : z_co 149 29 = (.ireturn, 1, 0, 0, []) := rfl
theorem zr_150_0 : z_co 150 0 = (.aload_n 0, 1, 0, 0, []) := rfl
theorem zr_150_1 : z_co 150 1 = (.iconst 0, 1, 0, 0, []) := rfl
theorem zr_150_2 : z_co 150 2 = (.putfield 118, 3, 12, 1, [1191]) := rfl
theorem zr_150_5 : z_co 150 5 = (.iload_n 1, 1, 0, 0, []) := rfl
theorem zr_150_6 : z_co 150 6 = (.ireturn, 1, 0, 0, []) := rfl
theorem zr_151_0 : z_co 151 0 = (.aload_n 0, 1, 0, 0, []) := rfl
theorem zr_151_1 : z_co 151 1 = (.getfield 13, 3, 12, 3, [1193]) := rfl
theorem zr_151_4 : z_co 151 4 = (.iload_n 1, 1, 0, 0, []) := rfl
theorem zr_151_5 : z_co 151 5 = (.iaload, 1, 0, 0, []) := rfl
theorem zr_151_6 : z_co 151 6 = (.istore_n 3, 1, 0, 0, []) := rfl
theorem zr_151_7 : z_co 151 7 = (.aload_n 0, 1, 0, 0, []) := rfl
theorem zr_151_8 : z_co 151 8 = (.getfield 13, 3, 12, 3, [1193]) := rfl
theorem zr_151_11 : z_co 151 11 = (.iload_n 1, 1, 0, 0, []) := rfl
theorem zr_151_12 : z_co 151 12 = (.iload_n 2, 1, 0, 0, []) := rfl
theorem zr_151_13 : z_co 151 13 = (.iastore, 1, 0, 0, []) := rfl
theorem zr_151_14 : z_co 151 14 = (.aload_n 0, 1, 0, 0, []) := rfl
theorem zr_151_15 : z_co 151 15 = (.iload_n 3, 1, 0, 0, []) := rfl
theorem zr_151_16 : z_co 151 16 = (.invokevirtual 121, 3, 150, 0, [1403, 1405, 51]) := rfl
theorem zr_151_19 : z_co 151 19 = (.ireturn, 1, 0, 0, []) := rfl
theorem zr_152_0 : z_co 152 0 = (.aload_n 0, 1, 0, 0, []) := rfl
theorem zr_152_1 : z_co 152 1 = (.iconst 0, 1, 0, 0, []) := rfl
theorem zr_152_2 : z_co 152 2 = (.putfield 115, 3, 12, 0, [1190]) := rfl
theorem zr_152_5 : z_co 152 5 = (.iload_n 1, 1, 0, 0, []) := rfl
theorem zr_152_6 : z_co 152 6 = (.i2l, 1, 0, 0, []) := rfl
theorem zr_152_7 : z_co 152 7 = (.lconst 0, 1, 0, 0, []) := rfl
theorem zr_152_8 : z_co 152 8 = (.lconst 1, 1, 0, 0, []) := rfl
theorem zr_152_9 : z_co 152 9 = (.invokestatic 125, 3, 145, 0, [1363, 1364]) := rfl
theorem zr_152_12 : z_co 152 12 = (.ifCond .ne 9, 3, 0, 0, []) := rfl
theorem zr_152_15 : z_co 152 15 = (.aload_n 0, 1, 0, 0, []) := rfl
theorem zr_152_16 : z_co 152 16 = (.iconst (-1), 1, 0, 0, []) := rfl
theorem zr_152_17 : z_co 152 17 = (.invokevirtual 129, 3, 149, 0, [1366, 1368, 46]) := rfl
theorem zr_152_20 : z_co 152 20 = (.ireturn, 1, 0, 0, []) := rfl
theorem zr_152_21 : z_co 152 21 = (.iconst 0, 1, 0, 0, []) := rfl
theorem zr_152_22 : z_co 152 22 = (.istore_n 2, 1, 0, 0, []) := rfl
theorem zr_152_23 : z_co 152 23 = (.iload_n 2, 1, 0, 0, []) := rfl
theorem zr_152_24 : z_co 152 24 = (.sipush 5490, 3, 0, 0, []) := rfl
theorem zr_152_27 : z_co 152 27 = (.if_icmp .ge 27, 3, 0, 0, []) := rfl
theorem zr_152_30 : z_co 152 30 = (.aload_n 0, 1, 0, 0, []) := rfl
theorem zr_152_31 : z_co 152 31 = (.getfield 16, 3, 12, 4, [1194]) := rfl
theorem zr_152_34 : z_co 152 34 = (.sipush 5490, 3, 0, 0, []) := rfl
theorem zr_152_37 : z_co 152 37 = (.iload_n 1, 1, 0, 0, []) := rfl
theorem zr_152_38 : z_co 152 38 = (.imul, 1, 0, 0, []) := rfl
theorem zr_152_39 : z_co 152 39 = (.iload_n 2, 1, 0, 0, []) := rfl
theorem zr_152_40 : z_co 152 40 = (.iadd, 1, 0, 0, []) := rfl
theorem zr_152_41 : z_co 152 41 = (.aload_n 0, 1, 0, 0, []) := rfl
theorem zr_152_42 : z_co 152 42 = (.getfield 13, 3, 12, 3, [1193]) := rfl
theorem zr_152_45 : z_co 152 45 = (.iload_n 2, 1, 0, 0, []) := rfl
theorem zr_152_46 : z_co 152 46 = (.iaload, 1, 0, 0, []) := rfl
theorem zr_152_47 : z_co 152 47 = (.iastore, 1, 0, 0, []) := rfl
theorem zr_152_48 : z_co 152 48 = (.iinc 2 1, 3, 0, 0, []) := rfl
theorem zr_152_51 : z_co 152 51 = (.goto (-28), 3, 0, 0, []) := rfl
theorem zr_152_54 : z_co 152 54 = (.aload_n 0, 1, 0, 0, []) := rfl
theorem zr_152_55 : z_co 152 55 = (.getfield 19, 3, 12, 5, [1195]) := rfl
theorem zr_152_58 : z_co 152 58 = (.iload_n 1, 1, 0, 0, []) := rfl
theorem zr_152_59 : z_co 152 59 = (.iconst 1, 1, 0, 0, []) := rfl
theorem zr_152_60 : z_co 152 60 = (.bastore, 1, 0, 0, []) := rfl
theorem zr_152_61 : z_co 152 61 = (.aload_n 0, 1, 0, 0, []) := rfl
theorem zr_152_62 : z_co 152 62 = (.iconst 0, 1, 0, 0, []) := rfl
theorem zr_152_63 : z_co 152 63 = (.invokevirtual 129, 3, 149, 0, [1366, 1368, 46]) := rfl
theorem zr_152_66 : z_co 152 66 = (.ireturn, 1, 0, 0, []) := rfl
theorem zr_153_0 : z_co 153 0 = (.aload_n 0, 1, 0, 0, []) := rfl
theorem zr_153_1 : z_co 153 1 = (.iconst 0, 1, 0, 0, []) := rfl
theorem zr_153_2 : z_co 153 2 = (.putfield 115, 3, 12, 0, [1190]) := rfl
theorem zr_153_5 : z_co 153 5 = (.iload_n 1, 1, 0, 0, []) := rfl
theorem zr_153_6 : z_co 153 6 = (.i2l, 1, 0, 0, []) := rfl
theorem zr_153_7 : z_co 153 7 = (.lconst 0, 1, 0, 0, []) := rfl
theorem zr_153_8 : z_co 153 8 = (.lconst 1, 1, 0, 0, []) := rfl
theorem zr_153_9 : z_co 153 9 = (.invokestatic 125, 3, 145, 0, [1363, 1364]) := rfl
theorem zr_153_12 : z_co 153 12 = (.ifCond .ne 9, 3, 0, 0, []) := rfl
theorem zr_153_15 : z_co 153 15 = (.aload_n 0, 1, 0, 0, []) := rfl
theorem zr_153_16 : z_co 153 16 = (.iconst (-1), 1, 0, 0, []) := rfl
theorem zr_153_17 : z_co 153 17 = (.invokevirtual 129, 3, 149, 0, [1366, 1368, 46]) := rfl
theorem zr_153_20 : z_co 153 20 = (.ireturn, 1, 0, 0, []) := rfl
theorem zr_153_21 : z_co 153 21 = (.aload_n 0, 1, 0, 0, []) := rfl
theorem zr_153_22 : z_co 153 22 = (.getfield 19, 3, 12, 5, [1195]) := rfl
theorem zr_153_25 : z_co 153 25 = (.iload_n 1, 1, 0, 0, []) := rfl
theorem zr_153_26 : z_co 153 26 = (.baload, 1, 0, 0, []) := rfl
theorem zr_153_27 : z_co 153 27 = (.ifCond .ne 10, 3, 0, 0, []) := rfl
theorem zr_153_30 : z_co 153 30 = (.aload_n 0, 1, 0, 0, []) := rfl
theorem zr_153_31 : z_co 153 31 = (.bipush (-2), 2, 0, 0, []) := rfl
theorem zr_153_33 : z_co 153 33 = (.invokevirtual 129, 3, 149, 0, [1366, 1368, 46]) := rfl
theorem zr_153_36 : z_co 153 36 = (.ireturn, 1, 0, 0, []) := rfl
theorem zr_153_37 : z_co 153 37 = (.iconst 0, 1, 0, 0, []) := rfl
theorem zr_153_38 : z_co 153 38 = (.istore_n 2, 1, 0, 0, []) := rfl
theorem zr_153_39 : z_co 153 39 = (.iload_n 2, 1, 0, 0, []) := rfl
theorem zr_153_40 : z_co 153 40 = (.sipush 5490, 3, 0, 0, []) := rfl
theorem zr_153_43 : z_co 153 43 = (.if_icmp .ge 27, 3, 0, 0, []) := rfl
theorem zr_153_46 : z_co 153 46 = (.aload_n 0, 1, 0, 0, []) := rfl
theorem zr_153_47 : z_co 153 47 = (.getfield 13, 3, 12, 3, [1193]) := rfl
theorem zr_153_50 : z_co 153 50 = (.iload_n 2, 1, 0, 0, []) := rfl
theorem zr_153_51 : z_co 153 51 = (.aload_n 0, 1, 0, 0, []) := rfl
theorem zr_153_52 : z_co 153 52 = (.getfield 16, 3, 12, 4, [1194]) := rfl
theorem zr_153_55 : z_co 153 55 = (.sipush 5490, 3, 0, 0, []) := rfl
theorem zr_153_58 : z_co 153 58 = (.iload_n 1, 1, 0, 0, []) := rfl
theorem zr_153_59 : z_co 153 59 = (.imul, 1, 0, 0, []) := rfl
theorem zr_153_60 : z_co 153 60 = (.iload_n 2, 1, 0, 0, []) := rfl
theorem zr_153_61 : z_co 153 61 = (.iadd, 1, 0, 0, []) := rfl
theorem zr_153_62 : z_co 153 62 = (.iaload, 1, 0, 0, []) := rfl
theorem zr_153_63 : z_co 153 63 = (.iastore, 1, 0, 0, []) := rfl
theorem zr_153_64 : z_co 153 64 = (.iinc 2 1, 3, 0, 0, []) := rfl
theorem zr_153_67 : z_co 153 67 = (.goto (-28), 3, 0, 0, []) := rfl
theorem zr_153_70 : z_co 153 70 = (.aload_n 0, 1, 0, 0, []) := rfl
theorem zr_153_71 : z_co 153 71 = (.iconst 0, 1, 0, 0, []) := rfl
theorem zr_153_72 : z_co 153 72 = (.invokevirtual 129, 3, 149, 0, [1366, 1368, 46]) := rfl
theorem zr_153_75 : z_co 153 75 = (.ireturn, 1, 0, 0, []) := rfl
theorem zr_154_0 : z_co 154 0 = (.aload_n 0, 1, 0, 0, []) := rfl
theorem zr_154_1 : z_co 154 1 = (.getfield 13, 3, 12, 3, [1193]) := rfl
theorem zr_154_4 : z_co 154 4 = (.iconst 0, 1, 0, 0, []) := rfl
theorem zr_154_5 : z_co 154 5 = (.iaload, 1, 0, 0, []) := rfl
theorem zr_154_6 : z_co 154 6 = (.ireturn, 1, 0, 0, []) := rfl
theorem zr_155_0 : z_co 155 0 = (.iload_n 1, 1, 0, 0, []) := rfl
theorem zr_155_1 : z_co 155 1 = (.i2l, 1, 0, 0, []) := rfl
theorem zr_155_2 : z_co 155 2 = (.lconst 0, 1, 0, 0, []) := rfl
theorem zr_155_3 : z_co 155 3 = (.aload_n 0, 1, 0, 0, []) := rfl
theorem zr_155_4 : z_co 155 4 = (.invokevirtual 132, 3, 154, 0, [1383, 1385, 47]) := rfl
theorem zr_155_7 : z_co 155 7 = (.i2l, 1, 0, 0, []) := rfl
theorem zr_155_8 : z_co 155 8 = (.lconst 1, 1, 0, 0, []) := rfl
theorem zr_155_9 : z_co 155 9 = (.lsub, 1, 0, 0, []) := rfl
theorem zr_155_10 : z_co 155 10 = (.invokestatic 125, 3, 145, 0, [1363, 1364]) := rfl
theorem zr_155_13 : z_co 155 13 = (.ireturn, 1, 0, 0, []) := rfl
theorem zr_156_0 : z_co 156 0 = (.iload_n 1, 1, 0, 0, []) := rfl
theorem zr_156_1 : z_co 156 1 = (.i2l, 1, 0, 0, []) := rfl
theorem zr_156_2 : z_co 156 2 = (.lconst 0, 1, 0, 0, []) := rfl
theorem zr_156_3 : z_co 156 3 = (.aload_n 0, 1, 0, 0, []) := rfl
theorem zr_156_4 : z_co 156 4 = (.getfield 13, 3, 12, 3, [1193]) := rfl
theorem zr_156_7 : z_co 156 7 = (.iconst 1, 1, 0, 0, []) := rfl
theorem zr_156_8 : z_co 156 8 = (.iaload, 1, 0, 0, []) := rfl
theorem zr_156_9 : z_co 156 9 = (.i2l, 1, 0, 0, []) := rfl
theorem zr_156_10 : z_co 156 10 = (.lconst 1, 1, 0, 0, []) := rfl
theorem zr_156_11 : z_co 156 11 = (.lsub, 1, 0, 0, []) := rfl
theorem zr_156_12 : z_co 156 12 = (.invokestatic 125, 3, 145, 0, [1363, 1364]) := rfl
theorem zr_156_15 : z_co 156 15 = (.ireturn, 1, 0, 0, []) := rfl
theorem zr_157_0 : z_co 157 0 = (.aload_n 0, 1, 0, 0, []) := rfl
theorem zr_157_1 : z_co 157 1 = (.getfield 13, 3, 12, 3, [1193]) := rfl
theorem zr_157_4 : z_co 157 4 = (.bipush 8, 2, 0, 0, []) := rfl
theorem zr_157_6 : z_co 157 6 = (.iconst 4, 1, 0, 0, []) := rfl
theorem zr_157_7 : z_co 157 7 = (.iload_n 1, 1, 0, 0, []) := rfl
theorem zr_157_8 : z_co 157 8 = (.imul, 1, 0, 0, []) := rfl
theorem zr_157_9 : z_co 157 9 = (.iadd, 1, 0, 0, []) := rfl
theorem zr_157_10 : z_co 157 10 = (.iload_n 2, 1, 0, 0, []) := rfl
theorem zr_157_11 : z_co 157 11 = (.iadd, 1, 0, 0, []) := rfl
theorem zr_157_12 : z_co 157 12 = (.iaload, 1, 0, 0, []) := rfl
theorem zr_157_13 : z_co 157 13 = (.ireturn, 1, 0, 0, []) := rfl
theorem zr_158_0 : z_co 158 0 = (.aload_n 0, 1, 0, 0, []) := rfl
theorem zr_158_1 : z_co 158 1 = (.getfield 13, 3, 12, 3, [1193]) := rfl
theorem zr_158_4 : z_co 158 4 = (.bipush 56, 2, 0, 0, []) := rfl
theorem zr_158_6 : z_co 158 6 = (.iconst 2, 1, 0, 0, []) := rfl
theorem zr_158_7 : z_co 158 7 = (.iload_n 1, 1, 0, 0, []) := rfl
theorem zr_158_8 : z_co 158 8 = (.imul, 1, 0, 0, []) := rfl
theorem zr_158_9 : z_co 158 9 = (.iadd, 1, 0, 0, []) := rfl
theorem zr_158_10 : z_co 158 10 = (.iaload, 1, 0, 0, []) := rfl
theorem zr_158_11 : z_co 158 11 = (.ireturn, 1, 0, 0, []) := rfl
theorem zr_159_0 : z_co 159 0 = (.iload_n 0, 1, 0, 0, []) := rfl
theorem zr_159_1 : z_co 159 1 = (.tableswitch 69 0 3 #[31, 41, 51, 61], 31, 0, 0, []) := rfl
theorem zr_159_32 : z_co 159 32 = (.iload_n 1, 1, 0, 0, []) := rfl
theorem zr_159_33 : z_co 159 33 = (.i2l, 1, 0, 0, []) := rfl
theorem zr_159_34 : z_co 159 34 = (.lconst 1, 1, 0, 0, []) := rfl
theorem zr_159_35 : z_co 159 35 = (.ldc2_w 136, 3, 9, 0, [1381]) := rfl
theorem zr_159_38 : z_co 159 38 = (.invokestatic 125, 3, 145, 0, [1363, 1364]) := rfl
theorem zr_159_41 : z_co 159 41 = (.ireturn, 1, 0, 0, []) := rfl
theorem zr_159_42 : z_co 159 42 = (.iload_n 1, 1, 0, 0, []) := rfl
theorem zr_159_43 : z_co 159 43 = (.i2l, 1, 0, 0, []) := rfl
theorem zr_159_44 : z_co 159 44 = (.lconst 1, 1, 0, 0, []) := rfl
theorem zr_159_45 : z_co 159 45 = (.ldc2_w 138, 3, 99, 0, [1382]) := rfl
theorem zr_159_48 : z_co 159 48 = (.invokestatic 125, 3, 145, 0, [1363, 1364]) := rfl
theorem zr_159_51 : z_co 159 51 = (.ireturn, 1, 0, 0, []) := rfl
theorem zr_159_52 : z_co 159 52 = (.iload_n 1, 1, 0, 0, []) := rfl
theorem zr_159_53 : z_co 159 53 = (.i2l, 1, 0, 0, []) := rfl
theorem zr_159_54 : z_co 159 54 = (.lconst 0, 1, 0, 0, []) := rfl
theorem zr_159_55 : z_co 159 55 = (.ldc2_w 136, 3, 9, 0, [1381]) := rfl
theorem zr_159_58 : z_co 159 58 = (.invokestatic 125, 3, 145, 0, [1363, 1364]) := rfl
theorem zr_159_61 : z_co 159 61 = (.ireturn, 1, 0, 0, []) := rfl
theorem zr_159_62 : z_co 159 62 = (.iload_n 1, 1, 0, 0, []) := rfl
theorem zr_159_63 : z_co 159 63 = (.i2l, 1, 0, 0, []) := rfl
theorem zr_159_64 : z_co 159 64 = (.lconst 0, 1, 0, 0, []) := rfl
theorem zr_159_65 : z_co 159 65 = (.lconst 1, 1, 0, 0, []) := rfl
theorem zr_159_66 : z_co 159 66 = (.invokestatic 125, 3, 145, 0, [1363, 1364]) := rfl
theorem zr_159_69 : z_co 159 69 = (.ireturn, 1, 0, 0, []) := rfl
theorem zr_159_70 : z_co 159 70 = (.iconst 0, 1, 0, 0, []) := rfl
theorem zr_159_71 : z_co 159 71 = (.ireturn, 1, 0, 0, []) := rfl
theorem zr_160_0 : z_co 160 0 = (.bipush 8, 2, 0, 0, []) := rfl
theorem zr_160_2 : z_co 160 2 = (.iconst 4, 1, 0, 0, []) := rfl
theorem zr_160_3 : z_co 160 3 = (.aload_n 0, 1, 0, 0, []) := rfl
theorem zr_160_4 : z_co 160 4 = (.invokevirtual 132, 3, 154, 0, [1383, 1385, 47]) := rfl
theorem zr_160_7 : z_co 160 7 = (.imul, 1, 0, 0, []) := rfl
theorem zr_160_8 : z_co 160 8 = (.iadd, 1, 0, 0, []) := rfl
theorem zr_160_9 : z_co 160 9 = (.istore 4, 2, 0, 0, []) := rfl
theorem zr_160_11 : z_co 160 11 = (.aload_n 0, 1, 0, 0, []) := rfl
theorem zr_160_12 : z_co 160 12 = (.getfield 13, 3, 12, 3, [1193]) := rfl
theorem zr_160_15 : z_co 160 15 = (.iload 4, 2, 0, 0, []) := rfl
theorem zr_160_17 : z_co 160 17 = (.iload_n 1, 1, 0, 0, []) := rfl
theorem zr_160_18 : z_co 160 18 = (.iastore, 1, 0, 0, []) := rfl
theorem zr_160_19 : z_co 160 19 = (.aload_n 0, 1, 0, 0, []) := rfl
theorem zr_160_20 : z_co 160 20 = (.getfield 13, 3, 12, 3, [1193]) := rfl
theorem zr_160_23 : z_co 160 23 = (.iload 4, 2, 0, 0, []) := rfl
theorem zr_160_25 : z_co 160 25 = (.iconst 1, 1, 0, 0, []) := rfl
theorem zr_160_26 : z_co 160 26 = (.iadd, 1, 0, 0, []) := rfl
theorem zr_160_27 : z_co 160 27 = (.iload_n 2, 1, 0, 0, []) := rfl
theorem zr_160_28 : z_co 160 28 = (.iastore, 1, 0, 0, []) := rfl
theorem zr_160_29 : z_co 160 29 = (.aload_n 0, 1, 0, 0, []) := rfl
theorem zr_160_30 : z_co 160 30 = (.getfield 13, 3, 12, 3, [1193]) := rfl
theorem zr_160_33 : z_co 160 33 = (.iload 4, 2, 0, 0, []) := rfl
theorem zr_160_35 : z_co 160 35 = (.iconst 2, 1, 0, 0, []) := rfl
theorem zr_160_36 : z_co 160 36 = (.iadd, 1, 0, 0, []) := rfl
theorem zr_160_37 : z_co 160 37 = (.iload_n 3, 1, 0, 0, []) := rfl
theorem zr_160_38 : z_co 160 38 = (.iastore, 1, 0, 0, []) := rfl
theorem zr_160_39 : z_co 160 39 = (.aload_n 0, 1, 0, 0, []) := rfl
theorem zr_160_40 : z_co 160 40 = (.getfield 13, 3, 12, 3, [1193]) := rfl
theorem zr_160_43 : z_co 160 43 = (.iload 4, 2, 0, 0, []) := rfl
theorem zr_160_45 : z_co 160 45 = (.iconst 3, 1, 0, 0, []) := rfl
theorem zr_160_46 : z_co 160 46 = (.iadd, 1, 0, 0, []) := rfl
theorem zr_160_47 : z_co 160 47 = (.iconst 0, 1, 0, 0, []) := rfl
theorem zr_160_48 : z_co 160 48 = (.iastore, 1, 0, 0, []) := rfl
theorem zr_160_49 : z_co 160 49 = (.aload_n 0, 1, 0, 0, []) := rfl
theorem zr_160_50 : z_co 160 50 = (.getfield 13, 3, 12, 3, [1193]) := rfl
theorem zr_160_53 : z_co 160 53 = (.iconst 0, 1, 0, 0, []) := rfl
theorem zr_160_54 : z_co 160 54 = (.dup2, 1, 0, 0, []) := rfl
theorem zr_160_55 : z_co 160 55 = (.iaload, 1, 0, 0, []) := rfl
theorem zr_160_56 : z_co 160 56 = (.iconst 1, 1, 0, 0, []) := rfl
theorem zr_160_57 : z_co 160 57 = (.iadd, 1, 0, 0, []) := rfl
theorem zr_160_58 : z_co 160 58 = (.iastore, 1, 0, 0, []) := rfl
theorem zr_160_59 : z_co 160 59 = (.return_, 1, 0, 0, []) := rfl
theorem zr_161_0 : z_co 161 0 = (.aload_n 0, 1, 0, 0, []) := rfl
theorem zr_161_1 : z_co 161 1 = (.iconst 0, 1, 0, 0, []) := rfl
theorem zr_161_2 : z_co 161 2 = (.putfield 115, 3, 12, 0, [1190]) := rfl
theorem zr_161_5 : z_co 161 5 = (.iconst 0, 1, 0, 0, []) := rfl
theorem zr_161_6 : z_co 161 6 = (.iload_n 1, 1, 0, 0, []) := rfl
theorem zr_161_7 : z_co 161 7 = (.invokestatic 140, 3, 159, 0, [1378, 1379]) := rfl
theorem zr_161_10 : z_co 161 10 = (.ifCond .eq 11, 3, 0, 0, []) := rfl
theorem zr_161_13 : z_co 161 13 = (.iconst 1, 1, 0, 0, []) := rfl
theorem zr_161_14 : z_co 161 14 = (.iload_n 2, 1, 0, 0, []) := rfl
theorem zr_161_15 : z_co 161 15 = (.invokestatic 140, 3, 159, 0, [1378, 1379]) := rfl
theorem zr_161_18 : z_co 161 18 = (.ifCond .ne 9, 3, 0, 0, []) := rfl
theorem zr_161_21 : z_co 161 21 = (.aload_n 0, 1, 0, 0, []) := rfl
theorem zr_161_22 : z_co 161 22 = (.iconst (-1), 1, 0, 0, []) := rfl
theorem zr_161_23 : z_co 161 23 = (.invokevirtual 129, 3, 149, 0, [1366, 1368, 46]) := rfl
theorem zr_161_26 : z_co 161 26 = (.ireturn, 1, 0, 0, []) := rfl
theorem zr_161_27 : z_co 161 27 = (.aload_n 0, 1, 0, 0, []) := rfl
theorem zr_161_28 : z_co 161 28 = (.invokevirtual 132, 3, 154, 0, [1383, 1385, 47]) := rfl
theorem zr_161_31 : z_co 161 31 = (.bipush 12, 2, 0, 0, []) := rfl
theorem zr_161_33 : z_co 161 33 = (.if_icmp .ne 10, 3, 0, 0, []) := rfl
theorem zr_161_36 : z_co 161 36 = (.aload_n 0, 1, 0, 0, []) := rfl
theorem zr_161_37 : z_co 161 37 = (.bipush (-5), 2, 0, 0, []) := rfl
theorem zr_161_39 : z_co 161 39 = (.invokevirtual 129, 3, 149, 0, [1366, 1368, 46]) := rfl
theorem zr_161_42 : z_co 161 42 = (.ireturn, 1, 0, 0, []) := rfl
theorem zr_161_43 : z_co 161 43 = (.aload_n 0, 1, 0, 0, []) := rfl
theorem zr_161_44 : z_co 161 44 = (.iload_n 1, 1, 0, 0, []) := rfl
theorem zr_161_45 : z_co 161 45 = (.iload_n 2, 1, 0, 0, []) := rfl
theorem zr_161_46 : z_co 161 46 = (.iconst 0, 1, 0, 0, []) := rfl
theorem zr_161_47 : z_co 161 47 = (.invokevirtual 144, 3, 160, 0, [1387, 1389, 48]) := rfl
theorem zr_161_50 : z_co 161 50 = (.aload_n 0, 1, 0, 0, []) := rfl
theorem zr_161_51 : z_co 161 51 = (.aload_n 0, 1, 0, 0, []) := rfl
theorem zr_161_52 : z_co 161 52 = (.invokevirtual 132, 3, 154, 0, [1383, 1385, 47]) := rfl
theorem zr_161_55 : z_co 161 55 = (.iconst 1, 1, 0, 0, []) := rfl
theorem zr_161_56 : z_co 161 56 = (.isub, 1, 0, 0, []) := rfl
theorem zr_161_57 : z_co 161 57 = (.invokevirtual 129, 3, 149, 0, [1366, 1368, 46]) := rfl
theorem zr_161_60 : z_co 161 60 = (.ireturn, 1, 0, 0, []) := rfl
theorem zr_162_0 : z_co 162 0 = (.aload_n 0, 1, 0, 0, []) := rfl
theorem zr_162_1 : z_co 162 1 = (.iconst 0, 1, 0, 0, []) := rfl
theorem zr_162_2 : z_co 162 2 = (.putfield 115, 3, 12, 0, [1190]) := rfl
theorem zr_162_5 : z_co 162 5 = (.iload_n 2, 1, 0, 0, []) := rfl
theorem zr_162_6 : z_co 162 6 = (.iload_n 3, 1, 0, 0, []) := rfl
theorem zr_162_7 : z_co 162 7 = (.invokestatic 140, 3, 159, 0, [1378, 1379]) := rfl
theorem zr_162_10 : z_co 162 10 = (.ifCond .ne 9, 3, 0, 0, []) := rfl
theorem zr_162_13 : z_co 162 13 = (.aload_n 0, 1, 0, 0, []) := rfl
theorem zr_162_14 : z_co 162 14 = (.iconst (-1), 1, 0, 0, []) := rfl
theorem zr_162_15 : z_co 162 15 = (.invokevirtual 129, 3, 149, 0, [1366, 1368, 46]) := rfl
theorem zr_162_18 : z_co 162 18 = (.ireturn, 1, 0, 0, []) := rfl
theorem zr_162_19 : z_co 162 19 = (.aload_n 0, 1, 0, 0, []) := rfl
theorem zr_162_20 : z_co 162 20 = (.iload_n 1, 1, 0, 0, []) := rfl
theorem zr_162_21 : z_co 162 21 = (.invokevirtual 148, 3, 155, 0, [1395, 1397, 49]) := rfl
theorem zr_162_24 : z_co 162 24 = (.ifCond .eq 19, 3, 0, 0, []) := rfl
theorem zr_162_27 : z_co 162 27 = (.aload_n 0, 1, 0, 0, []) := rfl
theorem zr_162_28 : z_co 162 28 = (.bipush 8, 2, 0, 0, []) := rfl
theorem zr_162_30 : z_co 162 30 = (.iconst 4, 1, 0, 0, []) := rfl
theorem zr_162_31 : z_co 162 31 = (.iload_n 1, 1, 0, 0, []) := rfl
theorem zr_162_32 : z_co 162 32 = (.imul, 1, 0, 0, []) := rfl
theorem zr_162_33 : z_co 162 33 = (.iadd, 1, 0, 0, []) := rfl
theorem zr_162_34 : z_co 162 34 = (.iload_n 2, 1, 0, 0, []) := rfl
theorem zr_162_35 : z_co 162 35 = (.iadd, 1, 0, 0, []) := rfl
theorem zr_162_36 : z_co 162 36 = (.iload_n 3, 1, 0, 0, []) := rfl
theorem zr_162_37 : z_co 162 37 = (.invokevirtual 152, 3, 151, 0, [1399, 1401, 50]) := rfl
theorem zr_162_40 : z_co 162 40 = (.goto 9, 3, 0, 0, []) := rfl
theorem zr_162_43 : z_co 162 43 = (.aload_n 0, 1, 0, 0, []) := rfl
theorem zr_162_44 : z_co 162 44 = (.bipush (-2), 2, 0, 0, []) := rfl
theorem zr_162_46 : z_co 162 46 = (.invokevirtual 129, 3, 149, 0, [1366, 1368, 46]) := rfl
theorem zr_162_49 : z_co 162 49 = (.ireturn, 1, 0, 0, []) := rfl
theorem zr_163_0 : z_co 163 0 = (.aload_n 0, 1, 0, 0, []) := rfl
theorem zr_163_1 : z_co 163 1 = (.iconst 0, 1, 0, 0, []) := rfl
theorem zr_163_2 : z_co 163 2 = (.putfield 115, 3, 12, 0, [1190]) := rfl
theorem zr_163_5 : z_co 163 5 = (.aload_n 0, 1, 0, 0, []) := rfl
theorem zr_163_6 : z_co 163 6 = (.iload_n 1, 1, 0, 0, []) := rfl
theorem zr_163_7 : z_co 163 7 = (.invokevirtual 148, 3, 155, 0, [1395, 1397, 49]) := rfl
theorem zr_163_10 : z_co 163 10 = (.ifCond .eq 15, 3, 0, 0, []) := rfl
theorem zr_163_13 : z_co 163 13 = (.iload_n 2, 1, 0, 0, []) := rfl
theorem zr_163_14 : z_co 163 14 = (.i2l, 1, 0, 0, []) := rfl
theorem zr_163_15 : z_co 163 15 = (.lconst 0, 1, 0, 0, []) := rfl
theorem zr_163_16 : z_co 163 16 = (.ldc2_w 156, 3, 4, 0, [1411]) := rfl
theorem zr_163_19 : z_co 163 19 = (.invokestatic 125, 3, 145, 0, [1363, 1364]) := rfl
theorem zr_163_22 : z_co 163 22 = (.ifCond .ne 5, 3, 0, 0, []) := rfl
theorem zr_163_25 : z_co 163 25 = (.iconst (-1), 1, 0, 0, []) := rfl
theorem zr_163_26 : z_co 163 26 = (.ireturn, 1, 0, 0, []) := rfl
theorem zr_163_27 : z_co 163 27 = (.aload_n 0, 1, 0, 0, []) := rfl
theorem zr_163_28 : z_co 163 28 = (.invokevirtual 158, 3, 201, 0, [1412, 1414, 52]) := rfl
theorem zr_163_31 : z_co 163 31 = (.iload_n 2, 1, 0, 0, []) := rfl
theorem zr_163_32 : z_co 163 32 = (.iconst 4, 1, 0, 0, []) := rfl
theorem zr_163_33 : z_co 163 33 = (.if_icmp .ne 12, 3, 0, 0, []) := rfl
theorem zr_163_36 : z_co 163 36 = (.aload_n 0, 1, 0, 0, []) := rfl
theorem zr_163_37 : z_co 163 37 = (.getfield 76, 3, 12, 33, [1223]) := rfl
theorem zr_163_40 : z_co 163 40 = (.iload_n 1, 1, 0, 0, []) := rfl
theorem zr_163_41 : z_co 163 41 = (.iaload, 1, 0, 0, []) := rfl
theorem zr_163_42 : z_co 163 42 = (.goto 9, 3, 0, 0, []) := rfl
theorem zr_163_45 : z_co 163 45 = (.aload_n 0, 1, 0, 0, []) := rfl
theorem zr_163_46 : z_co 163 46 = (.iload_n 1, 1, 0, 0, []) := rfl
theorem zr_163_47 : z_co 163 47 = (.iload_n 2, 1, 0, 0, []) := rfl
theorem zr_163_48 : z_co 163 48 = (.invokevirtual 161, 3, 157, 0, [1420, 1422, 54]) := rfl
theorem zr_163_51 : z_co 163 51 = (.ireturn, 1, 0, 0, []) := rfl
theorem zr_164_0 : z_co 164 0 = (.iload_n 0, 1, 0, 0, []) := rfl
theorem zr_164_1 : z_co 164 1 = (.ifCond .ne 15, 3, 0, 0, []) := rfl
theorem zr_164_4 : z_co 164 4 = (.iload_n 1, 1, 0, 0, []) := rfl
theorem zr_164_5 : z_co 164 5 = (.i2l, 1, 0, 0, []) := rfl
theorem zr_164_6 : z_co 164 6 = (.lconst 1, 1, 0, 0, []) := rfl
theorem zr_164_7 : z_co 164 7 = (.ldc2_w 164, 3, 40, 0, [1453]) := rfl
theorem zr_164_10 : z_co 164 10 = (.invokestatic 125, 3, 145, 0, [1363, 1364]) := rfl
theorem zr_164_13 : z_co 164 13 = (.goto 25, 3, 0, 0, []) := rfl
theorem zr_164_16 : z_co 164 16 = (.iload_n 0, 1, 0, 0, []) := rfl
theorem zr_164_17 : z_co 164 17 = (.iconst 1, 1, 0, 0, []) := rfl
theorem zr_164_18 : z_co 164 18 = (.if_icmp .ne 19, 3, 0, 0, []) := rfl
theorem zr_164_21 : z_co 164 21 = (.iload_n 1, 1, 0, 0, []) := rfl
theorem zr_164_22 : z_co 164 22 = (.i2l, 1, 0, 0, []) := rfl
theorem zr_164_23 : z_co 164 23 = (.lconst 1, 1, 0, 0, []) := rfl
theorem zr_164_24 : z_co 164 24 = (.ldc2_w 138, 3, 99, 0, [1382]) := rfl
theorem zr_164_27 : z_co 164 27 = (.invokestatic 125, 3, 145, 0, [1363, 1364]) := rfl
theorem zr_164_30 : z_co 164 30 = (.ifCond .eq 7, 3, 0, 0, []) := rfl
theorem zr_164_33 : z_co 164 33 = (.iconst 1, 1, 0, 0, []) := rfl
theorem zr_164_34 : z_co 164 34 = (.goto 4, 3, 0, 0, []) := rfl
theorem zr_164_37 : z_co 164 37 = (.iconst 0, 1, 0, 0, []) := rfl
theorem zr_164_38 : z_co 164 38 = (.ireturn, 1, 0, 0, []) := rfl
theorem zr_165_0 : z_co 165 0 = (.aload_n 0, 1, 0, 0, []) := rfl
theorem zr_165_1 : z_co 165 1 = (.iconst 0, 1, 0, 0, []) := rfl
theorem zr_165_2 : z_co 165 2 = (.putfield 115, 3, 12, 0, [1190]) := rfl
theorem zr_165_5 : z_co 165 5 = (.iconst 0, 1, 0, 0, []) := rfl
theorem zr_165_6 : z_co 165 6 = (.iload_n 1, 1, 0, 0, []) := rfl
theorem zr_165_7 : z_co 165 7 = (.invokestatic 166, 3, 164, 0, [1450, 1451]) := rfl
theorem zr_165_10 : z_co 165 10 = (.ifCond .eq 11, 3, 0, 0, []) := rfl
theorem zr_165_13 : z_co 165 13 = (.iconst 1, 1, 0, 0, []) := rfl
theorem zr_165_14 : z_co 165 14 = (.iload_n 2, 1, 0, 0, []) := rfl
theorem zr_165_15 : z_co 165 15 = (.invokestatic 166, 3, 164, 0, [1450, 1451]) := rfl
theorem zr_165_18 : z_co 165 18 = (.ifCond .ne 9, 3, 0, 0, []) := rfl
theorem zr_165_21 : z_co 165 21 = (.aload_n 0, 1, 0, 0, []) := rfl
theorem zr_165_22 : z_co 165 22 = (.iconst (-1), 1, 0, 0, []) := rfl
theorem zr_165_23 : z_co 165 23 = (.invokevirtual 129, 3, 149, 0, [1366, 1368, 46]) := rfl
theorem zr_165_26 : z_co 165 26 = (.ireturn, 1, 0, 0, []) := rfl
theorem zr_165_27 : z_co 165 27 = (.aload_n 0, 1, 0, 0, []) := rfl
theorem zr_165_28 : z_co 165 28 = (.getfield 13, 3, 12, 3, [1193]) := rfl
theorem zr_165_31 : z_co 165 31 = (.iconst 1, 1, 0, 0, []) := rfl
theorem zr_165_32 : z_co 165 32 = (.iaload, 1, 0, 0, []) := rfl
theorem zr_165_33 : z_co 165 33 = (.istore_n 3, 1, 0, 0, []) := rfl
theorem zr_165_34 : z_co 165 34 = (.iload_n 3, 1, 0, 0, []) := rfl
theorem zr_165_35 : z_co 165 35 = (.bipush 6, 2, 0, 0, []) := rfl
theorem zr_165_37 : z_co 165 37 = (.if_icmp .ne 10, 3, 0, 0, []) := rfl
theorem zr_165_40 : z_co 165 40 = (.aload_n 0, 1, 0, 0, []) := rfl
theorem zr_165_41 : z_co 165 41 = (.bipush (-5), 2, 0, 0, []) := rfl
theorem zr_165_43 : z_co 165 43 = (.invokevirtual 129, 3, 149, 0, [1366, 1368, 46]) := rfl
theorem zr_165_46 : z_co 165 46 = (.ireturn, 1, 0, 0, []) := rfl
theorem zr_165_47 : z_co 165 47 = (.aload_n 0, 1, 0, 0, []) := rfl
theorem zr_165_48 : z_co 165 48 = (.getfield 13, 3, 12, 3, [1193]) := rfl
theorem zr_165_51 : z_co 165 51 = (.bipush 56, 2, 0, 0, []) := rfl
theorem zr_165_53 : z_co 165 53 = (.iconst 2, 1, 0, 0, []) := rfl
theorem zr_165_54 : z_co 165 54 = (.iload_n 3, 1, 0, 0, []) := rfl
theorem zr_165_55 : z_co 165 55 = (.imul, 1, 0, 0, []) := rfl
theorem zr_165_56 : z_co 165 56 = (.iadd, 1, 0, 0, []) := rfl
theorem zr_165_57 : z_co 165 57 = (.iload_n 1, 1, 0, 0, []) := rfl
theorem zr_165_58 : z_co 165 58 = (.iastore, 1, 0, 0, []) := rfl
theorem zr_165_59 : z_co 165 59 = (.aload_n 0, 1, 0, 0, []) := rfl
theorem zr_165_60 : z_co 165 60 = (.getfield 13, 3, 12, 3, [1193]) := rfl
theorem zr_165_63 : z_co 165 63 = (.bipush 56, 2, 0, 0, []) := rfl
theorem zr_165_65 : z_co 165 65 = (.iconst 2, 1, 0, 0, []) := rfl
theorem zr_165_66 : z_co 165 66 = (.iload_n 3, 1, 0, 0, []) := rfl
theorem zr_165_67 : z_co 165 67 = (.imul, 1, 0, 0, []) := rfl
theorem zr_165_68 : z_co 165 68 = (.iadd, 1, 0, 0, []) := rfl
theorem zr_165_69 : z_co 165 69 = (.iconst 1, 1, 0, 0, []) := rfl
theorem zr_165_70 : z_co 165 70 = (.iadd, 1, 0, 0, []) := rfl
theorem zr_165_71 : z_co 165 71 = (.iload_n 2, 1, 0, 0, []) := rfl
theorem zr_165_72 : z_co 165 72 = (.iastore, 1, 0, 0, []) := rfl
theorem zr_165_73 : z_co 165 73 = (.aload_n 0, 1, 0, 0, []) := rfl
theorem zr_165_74 : z_co 165 74 = (.getfield 13, 3, 12, 3, [1193]) := rfl
theorem zr_165_77 : z_co 165 77 = (.iconst 1, 1, 0, 0, []) := rfl
theorem zr_165_78 : z_co 165 78 = (.dup2, 1, 0, 0, []) := rfl
theorem zr_165_79 : z_co 165 79 = (.iaload, 1, 0, 0, []) := rfl
theorem zr_165_80 : z_co 165 80 = (.iconst 1, 1, 0, 0, []) := rfl
theorem zr_165_81 : z_co 165 81 = (.iadd, 1, 0, 0, []) := rfl
theorem zr_165_82 : z_co 165 82 = (.iastore, 1, 0, 0, []) := rfl
theorem zr_165_83 : z_co 165 83 = (.aload_n 0, 1, 0, 0, []) := rfl
theorem zr_165_84 : z_co 165 84 = (.iload_n 3, 1, 0, 0, []) := rfl
theorem zr_165_85 : z_co 165 85 = (.invokevirtual 129, 3, 149, 0, [1366, 1368, 46]) := rfl
theorem zr_165_88 : z_co 165 88 = (.ireturn, 1, 0, 0, []) := rfl
theorem zr_166_0 : z_co 166 0 = (.aload_n 0, 1, 0, 0, []) := rfl
theorem zr_166_1 : z_co 166 1 = (.iconst 0, 1, 0, 0, []) := rfl
theorem zr_166_2 : z_co 166 2 = (.putfield 115, 3, 12, 0, [1190]) := rfl
theorem zr_166_5 : z_co 166 5 = (.iload_n 2, 1, 0, 0, []) := rfl
theorem zr_166_6 : z_co 166 6 = (.iload_n 3, 1, 0, 0, []) := rfl
theorem zr_166_7 : z_co 166 7 = (.invokestatic 166, 3, 164, 0, [1450, 1451]) := rfl
theorem zr_166_10 : z_co 166 10 = (.ifCond .ne 9, 3, 0, 0, []) := rfl
theorem zr_166_13 : z_co 166 13 = (.aload_n 0, 1, 0, 0, []) := rfl
theorem zr_166_14 : z_co 166 14 = (.iconst (-1), 1, 0, 0, []) := rfl
theorem zr_166_15 : z_co 166 15 = (.invokevirtual 129, 3, 149, 0, [1366, 1368, 46]) := rfl
theorem zr_166_18 : z_co 166 18 = (.ireturn, 1, 0, 0, []) := rfl
theorem zr_166_19 : z_co 166 19 = (.aload_n 0, 1, 0, 0, []) := rfl
theorem zr_166_20 : z_co 166 20 = (.iload_n 1, 1, 0, 0, []) := rfl
theorem zr_166_21 : z_co 166 21 = (.invokevirtual 169, 3, 156, 0, [1458, 1460, 60]) := rfl
theorem zr_166_24 : z_co 166 24 = (.ifCond .eq 19, 3, 0, 0, []) := rfl
theorem zr_166_27 : z_co 166 27 = (.aload_n 0, 1, 0, 0, []) := rfl
theorem zr_166_28 : z_co 166 28 = (.bipush 56, 2, 0, 0, []) := rfl
theorem zr_166_30 : z_co 166 30 = (.iconst 2, 1, 0, 0, []) := rfl
theorem zr_166_31 : z_co 166 31 = (.iload_n 1, 1, 0, 0, []) := rfl
theorem zr_166_32 : z_co 166 32 = (.imul, 1, 0, 0, []) := rfl
theorem zr_166_33 : z_co 166 33 = (.iadd, 1, 0, 0, []) := rfl
theorem zr_166_34 : z_co 166 34 = (.iload_n 2, 1, 0, 0, []) := rfl
theorem zr_166_35 : z_co 166 35 = (.iadd, 1, 0, 0, []) := rfl
theorem zr_166_36 : z_co 166 36 = (.iload_n 3, 1, 0, 0, []) := rfl
theorem zr_166_37 : z_co 166 37 = (.invokevirtual 152, 3, 151, 0, [1399, 1401, 50]) := rfl
theorem zr_166_40 : z_co 166 40 = (.goto 9, 3, 0, 0, []) := rfl
theorem zr_166_43 : z_co 166 43 = (.aload_n 0, 1, 0, 0, []) := rfl
theorem zr_166_44 : z_co 166 44 = (.bipush (-2), 2, 0, 0, []) := rfl
theorem zr_166_46 : z_co 166 46 = (.invokevirtual 129, 3, 149, 0, [1366, 1368, 46]) := rfl
theorem zr_166_49 : z_co 166 49 = (.ireturn, 1, 0, 0, []) := rfl
theorem zr_167_0 : z_co 167 0 = (.aload_n 0, 1, 0, 0, []) := rfl
theorem zr_167_1 : z_co 167 1 = (.iconst 0, 1, 0, 0, []) := rfl
theorem zr_167_2 : z_co 167 2 = (.putfield 115, 3, 12, 0, [1190]) := rfl
theorem zr_167_5 : z_co 167 5 = (.iload_n 1, 1, 0, 0, []) := rfl
theorem zr_167_6 : z_co 167 6 = (.ifCond .ne 15, 3, 0, 0, []) := rfl
theorem zr_167_9 : z_co 167 9 = (.iload_n 2, 1, 0, 0, []) := rfl
theorem zr_167_10 : z_co 167 10 = (.i2l, 1, 0, 0, []) := rfl
theorem zr_167_11 : z_co 167 11 = (.lconst 0, 1, 0, 0, []) := rfl
theorem zr_167_12 : z_co 167 12 = (.ldc2_w 172, 3, 23, 0, [1466]) := rfl
theorem zr_167_15 : z_co 167 15 = (.invokestatic 125, 3, 145, 0, [1363, 1364]) := rfl
theorem zr_167_18 : z_co 167 18 = (.goto 25, 3, 0, 0, []) := rfl
theorem zr_167_21 : z_co 167 21 = (.iload_n 1, 1, 0, 0, []) := rfl
theorem zr_167_22 : z_co 167 22 = (.iconst 1, 1, 0, 0, []) := rfl
theorem zr_167_23 : z_co 167 23 = (.if_icmp .ne 19, 3, 0, 0, []) := rfl
theorem zr_167_26 : z_co 167 26 = (.iload_n 2, 1, 0, 0, []) := rfl
theorem zr_167_27 : z_co 167 27 = (.i2l, 1, 0, 0, []) := rfl
theorem zr_167_28 : z_co 167 28 = (.lconst 0, 1, 0, 0, []) := rfl
theorem zr_167_29 : z_co 167 29 = (.ldc2_w 136, 3, 9, 0, [1381]) := rfl
theorem zr_167_32 : z_co 167 32 = (.invokestatic 125, 3, 145, 0, [1363, 1364]) := rfl
theorem zr_167_35 : z_co 167 35 = (.ifCond .eq 7, 3, 0, 0, []) := rfl
theorem zr_167_38 : z_co 167 38 = (.iconst 1, 1, 0, 0, []) := rfl
theorem zr_167_39 : z_co 167 39 = (.goto 4, 3, 0, 0, []) := rfl
theorem zr_167_42 : z_co 167 42 = (.iconst 0, 1, 0, 0, []) := rfl
theorem zr_167_43 : z_co 167 43 = (.istore_n 3, 1, 0, 0, []) := rfl
theorem zr_167_44 : z_co 167 44 = (.iload_n 3, 1, 0, 0, []) := rfl
theorem zr_167_45 : z_co 167 45 = (.ifCond .eq 15, 3, 0, 0, []) := rfl
theorem zr_167_48 : z_co 167 48 = (.aload_n 0, 1, 0, 0, []) := rfl
theorem zr_167_49 : z_co 167 49 = (.bipush 6, 2, 0, 0, []) := rfl
theorem zr_167_51 : z_co 167 51 = (.iload_n 1, 1, 0, 0, []) := rfl
theorem zr_167_52 : z_co 167 52 = (.iadd, 1, 0, 0, []) := rfl
theorem zr_167_53 : z_co 167 53 = (.iload_n 2, 1, 0, 0, []) := rfl
theorem zr_167_54 : z_co 167 54 = (.invokevirtual 152, 3, 151, 0, [1399, 1401, 50]) := rfl
theorem zr_167_57 : z_co 167 57 = (.goto 8, 3, 0, 0, []) := rfl
theorem zr_167_60 : z_co 167 60 = (.aload_n 0, 1, 0, 0, []) := rfl
theorem zr_167_61 : z_co 167 61 = (.iconst (-1), 1, 0, 0, []) := rfl
theorem zr_167_62 : z_co 167 62 = (.invokevirtual 129, 3, 149, 0, [1366, 1368, 46]) := rfl
theorem zr_167_65 : z_co 167 65 = (.ireturn, 1, 0, 0, []) := rfl
theorem zr_168_0 : z_co 168 0 = (.aload_n 0, 1, 0, 0, []) := rfl
theorem zr_168_1 : z_co 168 1 = (.iconst 0, 1, 0, 0, []) := rfl
theorem zr_168_2 : z_co 168 2 = (.putfield 115, 3, 12, 0, [1190]) := rfl
theorem zr_168_5 : z_co 168 5 = (.aload_n 0, 1, 0, 0, []) := rfl
theorem zr_168_6 : z_co 168 6 = (.getfield 174, 3, 12, 8, [1198]) := rfl
theorem zr_168_9 : z_co 168 9 = (.istore_n 1, 1, 0, 0, []) := rfl
theorem zr_168_10 : z_co 168 10 = (.aload_n 0, 1, 0, 0, []) := rfl
theorem zr_168_11 : z_co 168 11 = (.iconst 0, 1, 0, 0, []) := rfl
theorem zr_168_12 : z_co 168 12 = (.putfield 174, 3, 12, 8, [1198]) := rfl
theorem zr_168_15 : z_co 168 15 = (.iload_n 1, 1, 0, 0, []) := rfl
theorem zr_168_16 : z_co 168 16 = (.ifCond .ne 10, 3, 0, 0, []) := rfl
theorem zr_168_19 : z_co 168 19 = (.aload_n 0, 1, 0, 0, []) := rfl
theorem zr_168_20 : z_co 168 20 = (.bipush (-6), 2, 0, 0, []) := rfl
theorem zr_168_22 : z_co 168 22 = (.invokevirtual 129, 3, 149, 0, [1366, 1368, 46]) := rfl
theorem zr_168_25 : z_co 168 25 = (.ireturn, 1, 0, 0, []) := rfl
theorem zr_168_26 : z_co 168 26 = (.aload_n 0, 1, 0, 0, []) := rfl
theorem zr_168_27 : z_co 168 27 = (.iconst 0, 1, 0, 0, []) := rfl
theorem zr_168_28 : z_co 168 28 = (.putfield 177, 3, 12, 6, [1196]) := rfl
theorem zr_168_31 : z_co 168 31 = (.iconst 0, 1, 0, 0, []) := rfl
theorem zr_168_32 : z_co 168 32 = (.istore_n 2, 1, 0, 0, []) := rfl
theorem zr_168_33 : z_co 168 33 = (.iconst 0, 1, 0, 0, []) := rfl
theorem zr_168_34 : z_co 168 34 = (.istore_n 3, 1, 0, 0, []) := rfl
theorem zr_168_35 : z_co 168 35 = (.iload_n 3, 1, 0, 0, []) := rfl
theorem zr_168_36 : z_co 168 36 = (.iload_n 1, 1, 0, 0, []) := rfl
theorem zr_168_37 : z_co 168 37 = (.if_icmp .ge 122, 3, 0, 0, []) := rfl
theorem zr_168_40 : z_co 168 40 = (.iload_n 3, 1, 0, 0, []) := rfl
theorem zr_168_41 : z_co 168 41 = (.iconst 2, 1, 0, 0, []) := rfl
theorem zr_168_42 : z_co 168 42 = (.iadd, 1, 0, 0, []) := rfl
theorem zr_168_43 : z_co 168 43 = (.iload_n 1, 1, 0, 0, []) := rfl
theorem zr_168_44 : z_co 168 44 = (.if_icmp .ge 16, 3, 0, 0, []) := rfl
theorem zr_168_47 : z_co 168 47 = (.aload_n 0, 1, 0, 0, []) := rfl
theorem zr_168_48 : z_co 168 48 = (.invokevirtual 132, 3, 154, 0, [1383, 1385, 47]) := rfl
theorem zr_168_51 : z_co 168 51 = (.bipush 12, 2, 0, 0, []) := rfl
theorem zr_168_53 : z_co 168 53 = (.if_icmp .ge 7, 3, 0, 0, []) := rfl
theorem zr_168_56 : z_co 168 56 = (.iconst 1, 1, 0, 0, []) := rfl
theorem zr_168_57 : z_co 168 57 = (.goto 4, 3, 0, 0, []) := rfl
theorem zr_168_60 : z_co 168 60 = (.iconst 0, 1, 0, 0, []) := rfl
theorem zr_168_61 : z_co 168 61 = (.istore 4, 2, 0, 0, []) := rfl
theorem zr_168_63 : z_co 168 63 = (.iload 4, 2, 0, 0, []) := rfl
theorem zr_168_65 : z_co 168 65 = (.ifCond .eq 78, 3, 0, 0, []) := rfl
theorem zr_168_68 : z_co 168 68 = (.iconst 0, 1, 0, 0, []) := rfl
theorem zr_168_69 : z_co 168 69 = (.aload_n 0, 1, 0, 0, []) := rfl
theorem zr_168_70 : z_co 168 70 = (.getfield 23, 3, 12, 7, [1197]) := rfl
theorem zr_168_73 : z_co 168 73 = (.iload_n 3, 1, 0, 0, []) := rfl
theorem zr_168_74 : z_co 168 74 = (.iaload, 1, 0, 0, []) := rfl
theorem zr_168_75 : z_co 168 75 = (.invokestatic 140, 3, 159, 0, [1378, 1379]) := rfl
theorem zr_168_78 : z_co 168 78 = (.ifCond .eq 65, 3, 0, 0, []) := rfl
theorem zr_168_81 : z_co 168 81 = (.iconst 1, 1, 0, 0, []) := rfl
theorem zr_168_82 : z_co 168 82 = (.aload_n 0, 1, 0, 0, []) := rfl
theorem zr_168_83 : z_co 168 83 = (.getfield 23, 3, 12, 7, [1197]) := rfl
theorem zr_168_86 : z_co 168 86 = (.iload_n 3, 1, 0, 0, []) := rfl
theorem zr_168_87 : z_co 168 87 = (.iconst 1, 1, 0, 0, []) := rfl
theorem zr_168_88 : z_co 168 88 = (.iadd, 1, 0, 0, []) := rfl
theorem zr_168_89 : z_co 168 89 = (.iaload, 1, 0, 0, []) := rfl
theorem zr_168_90 : z_co 168 90 = (.invokestatic 140, 3, 159, 0, [1378, 1379]) := rfl
theorem zr_168_93 : z_co 168 93 = (.ifCond .eq 50, 3, 0, 0, []) := rfl
theorem zr_168_96 : z_co 168 96 = (.iconst 2, 1, 0, 0, []) := rfl
theorem zr_168_97 : z_co 168 97 = (.aload_n 0, 1, 0, 0, []) := rfl
theorem zr_168_98 : z_co 168 98 = (.getfield 23, 3, 12, 7, [1197]) := rfl
theorem zr_168_101 : z_co 168 101 = (.iload_n 3, 1, 0, 0, []) := rfl
theorem zr_168_102 : z_co 168 102 = (.iconst 2, 1, 0, 0, []) := rfl
theorem zr_168_103 : z_co 168 103 = (.iadd, 1, 0, 0, []) := rfl
theorem zr_168_104 : z_co 168 104 = (.iaload, 1, 0, 0, []) := rfl
theorem zr_168_105 : z_co 168 105 = (.invokestatic 140, 3, 159, 0, [1378, 1379]) := rfl
theorem zr_168_108 : z_co 168 108 = (.ifCond .eq 35, 3, 0, 0, []) := rfl
theorem zr_168_111 : z_co 168 111 = (.aload_n 0, 1, 0, 0, []) := rfl
theorem zr_168_112 : z_co 168 112 = (.aload_n 0, 1, 0, 0, []) := rfl
theorem zr_168_113 : z_co 168 113 = (.getfield 23, 3, 12, 7, [1197]) := rfl
theorem zr_168_116 : z_co 168 116 = (.iload_n 3, 1, 0, 0, []) := rfl
theorem zr_168_117 : z_co 168 117 = (.iaload, 1, 0, 0, []) := rfl
theorem zr_168_118 : z_co 168 118 = (.aload_n 0, 1, 0, 0, []) := rfl
theorem zr_168_119 : z_co 168 119 = (.getfield 23, 3, 12, 7, [1197]) := rfl
theorem zr_168_122 : z_co 168 122 = (.iload_n 3, 1, 0, 0, []) := rfl
theorem zr_168_123 : z_co 168 123 = (.iconst 1, 1, 0, 0, []) := rfl
theorem zr_168_124 : z_co 168 124 = (.iadd, 1, 0, 0, []) := rfl
theorem zr_168_125 : z_co 168 125 = (.iaload, 1, 0, 0, []) := rfl
theorem zr_168_126 : z_co 168 126 = (.aload_n 0, 1, 0, 0, []) := rfl
theorem zr_168_127 : z_co 168 127 = (.getfield 23, 3, 12, 7, [1197]) := rfl
theorem zr_168_130 : z_co 168 130 = (.iload_n 3, 1, 0, 0, []) := rfl
theorem zr_168_131 : z_co 168 131 = (.iconst 2, 1, 0, 0, []) := rfl
theorem zr_168_132 : z_co 168 132 = (.iadd, 1, 0, 0, []) := rfl
theorem zr_168_133 : z_co 168 133 = (.iaload, 1, 0, 0, []) := rfl
theorem zr_168_134 : z_co 168 134 = (.invokevirtual 144, 3, 160, 0, [1387, 1389, 48]) := rfl
theorem zr_168_137 : z_co 168 137 = (.iinc 2 1, 3, 0, 0, []) := rfl
theorem zr_168_140 : z_co 168 140 = (.goto 13, 3, 0, 0, []) := rfl
theorem zr_168_143 : z_co 168 143 = (.aload_n 0, 1, 0, 0, []) := rfl
theorem zr_168_144 : z_co 168 144 = (.dup, 1, 0, 0, []) := rfl
theorem zr_168_145 : z_co 168 145 = (.getfield 177, 3, 12, 6, [1196]) := rfl
theorem zr_168_148 : z_co 168 148 = (.iconst 1, 1, 0, 0, []) := rfl
theorem zr_168_149 : z_co 168 149 = (.iadd, 1, 0, 0, []) := rfl
theorem zr_168_150 : z_co 168 150 = (.putfield 177, 3, 12, 6, [1196]) := rfl
theorem zr_168_153 : z_co 168 153 = (.iinc 3 3, 3, 0, 0, []) := rfl
theorem zr_168_156 : z_co 168 156 = (.goto (-121), 3, 0, 0, []) := rfl
theorem zr_168_159 : z_co 168 159 = (.aload_n 0, 1, 0, 0, []) := rfl
theorem zr_168_160 : z_co 168 160 = (.iload_n 2, 1, 0, 0, []) := rfl
theorem zr_168_161 : z_co 168 161 = (.invokevirtual 129, 3, 149, 0, [1366, 1368, 46]) := rfl
theorem zr_168_164 : z_co 168 164 = (.ireturn, 1, 0, 0, []) := rfl
