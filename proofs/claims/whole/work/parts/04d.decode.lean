theorem d_LY_indexOfNext_0 : decode c_LY_indexOfNext 0 = .ok (.iload_n 1, 1) := by decide +kernel
theorem d_LY_indexOfNext_1 : decode c_LY_indexOfNext 1 = .ok (.ldc 87, 2) := by decide +kernel
theorem d_LY_indexOfNext_3 : decode c_LY_indexOfNext 3 = .ok (.imul, 1) := by decide +kernel
theorem d_LY_indexOfNext_4 : decode c_LY_indexOfNext 4 = .ok (.bipush 23, 2) := by decide +kernel
theorem d_LY_indexOfNext_6 : decode c_LY_indexOfNext 6 = .ok (.iushr, 1) := by decide +kernel
theorem d_LY_indexOfNext_7 : decode c_LY_indexOfNext 7 = .ok (.istore_n 3, 1) := by decide +kernel
theorem d_LY_indexOfNext_8 : decode c_LY_indexOfNext 8 = .ok (.iconst 0, 1) := by decide +kernel
theorem d_LY_indexOfNext_9 : decode c_LY_indexOfNext 9 = .ok (.istore 4, 2) := by decide +kernel
theorem d_LY_indexOfNext_11 : decode c_LY_indexOfNext 11 = .ok (.iload 4, 2) := by decide +kernel
theorem d_LY_indexOfNext_13 : decode c_LY_indexOfNext 13 = .ok (.sipush 512, 3) := by decide +kernel
theorem d_LY_indexOfNext_16 : decode c_LY_indexOfNext 16 = .ok (.if_icmp .ge 73, 3) := by decide +kernel
theorem d_LY_indexOfNext_19 : decode c_LY_indexOfNext 19 = .ok (.aload_n 0, 1) := by decide +kernel
theorem d_LY_indexOfNext_20 : decode c_LY_indexOfNext 20 = .ok (.getfield 37, 3) := by decide +kernel
theorem d_LY_indexOfNext_23 : decode c_LY_indexOfNext 23 = .ok (.iload_n 3, 1) := by decide +kernel
theorem d_LY_indexOfNext_24 : decode c_LY_indexOfNext 24 = .ok (.iaload, 1) := by decide +kernel
theorem d_LY_indexOfNext_25 : decode c_LY_indexOfNext 25 = .ok (.istore 5, 2) := by decide +kernel
theorem d_LY_indexOfNext_27 : decode c_LY_indexOfNext 27 = .ok (.iload 5, 2) := by decide +kernel
theorem d_LY_indexOfNext_29 : decode c_LY_indexOfNext 29 = .ok (.bipush 8, 2) := by decide +kernel
theorem d_LY_indexOfNext_31 : decode c_LY_indexOfNext 31 = .ok (.iushr, 1) := by decide +kernel
theorem d_LY_indexOfNext_32 : decode c_LY_indexOfNext 32 = .ok (.iload_n 2, 1) := by decide +kernel
theorem d_LY_indexOfNext_33 : decode c_LY_indexOfNext 33 = .ok (.if_icmp .eq 11, 3) := by decide +kernel
theorem d_LY_indexOfNext_36 : decode c_LY_indexOfNext 36 = .ok (.aload_n 0, 1) := by decide +kernel
theorem d_LY_indexOfNext_37 : decode c_LY_indexOfNext 37 = .ok (.iload_n 1, 1) := by decide +kernel
theorem d_LY_indexOfNext_38 : decode c_LY_indexOfNext 38 = .ok (.iload_n 2, 1) := by decide +kernel
theorem d_LY_indexOfNext_39 : decode c_LY_indexOfNext 39 = .ok (.iload_n 3, 1) := by decide +kernel
theorem d_LY_indexOfNext_40 : decode c_LY_indexOfNext 40 = .ok (.invokevirtual 88, 3) := by decide +kernel
theorem d_LY_indexOfNext_43 : decode c_LY_indexOfNext 43 = .ok (.ireturn, 1) := by decide +kernel
theorem d_LY_indexOfNext_44 : decode c_LY_indexOfNext 44 = .ok (.iload 5, 2) := by decide +kernel
theorem d_LY_indexOfNext_46 : decode c_LY_indexOfNext 46 = .ok (.sipush 255, 3) := by decide +kernel
theorem d_LY_indexOfNext_49 : decode c_LY_indexOfNext 49 = .ok (.iand, 1) := by decide +kernel
theorem d_LY_indexOfNext_50 : decode c_LY_indexOfNext 50 = .ok (.istore 6, 2) := by decide +kernel
theorem d_LY_indexOfNext_52 : decode c_LY_indexOfNext 52 = .ok (.iload 6, 2) := by decide +kernel
theorem d_LY_indexOfNext_54 : decode c_LY_indexOfNext 54 = .ok (.aload_n 0, 1) := by decide +kernel
theorem d_LY_indexOfNext_55 : decode c_LY_indexOfNext 55 = .ok (.getfield 58, 3) := by decide +kernel
theorem d_LY_indexOfNext_58 : decode c_LY_indexOfNext 58 = .ok (.if_icmp .ge 17, 3) := by decide +kernel
theorem d_LY_indexOfNext_61 : decode c_LY_indexOfNext 61 = .ok (.aload_n 0, 1) := by decide +kernel
theorem d_LY_indexOfNext_62 : decode c_LY_indexOfNext 62 = .ok (.getfield 43, 3) := by decide +kernel
theorem d_LY_indexOfNext_65 : decode c_LY_indexOfNext 65 = .ok (.iload 6, 2) := by decide +kernel
theorem d_LY_indexOfNext_67 : decode c_LY_indexOfNext 67 = .ok (.iaload, 1) := by decide +kernel
theorem d_LY_indexOfNext_68 : decode c_LY_indexOfNext 68 = .ok (.iload_n 1, 1) := by decide +kernel
theorem d_LY_indexOfNext_69 : decode c_LY_indexOfNext 69 = .ok (.if_icmp .ne 6, 3) := by decide +kernel
theorem d_LY_indexOfNext_72 : decode c_LY_indexOfNext 72 = .ok (.iload 6, 2) := by decide +kernel
theorem d_LY_indexOfNext_74 : decode c_LY_indexOfNext 74 = .ok (.ireturn, 1) := by decide +kernel
theorem d_LY_indexOfNext_75 : decode c_LY_indexOfNext 75 = .ok (.iload_n 3, 1) := by decide +kernel
theorem d_LY_indexOfNext_76 : decode c_LY_indexOfNext 76 = .ok (.iconst 1, 1) := by decide +kernel
theorem d_LY_indexOfNext_77 : decode c_LY_indexOfNext 77 = .ok (.iadd, 1) := by decide +kernel
theorem d_LY_indexOfNext_78 : decode c_LY_indexOfNext 78 = .ok (.sipush 512, 3) := by decide +kernel
theorem d_LY_indexOfNext_81 : decode c_LY_indexOfNext 81 = .ok (.irem, 1) := by decide +kernel
theorem d_LY_indexOfNext_82 : decode c_LY_indexOfNext 82 = .ok (.istore_n 3, 1) := by decide +kernel
theorem d_LY_indexOfNext_83 : decode c_LY_indexOfNext 83 = .ok (.iinc 4 1, 3) := by decide +kernel
theorem d_LY_indexOfNext_86 : decode c_LY_indexOfNext 86 = .ok (.goto (-75), 3) := by decide +kernel
theorem d_LY_indexOfNext_89 : decode c_LY_indexOfNext 89 = .ok (.sipush 255, 3) := by decide +kernel
theorem d_LY_indexOfNext_92 : decode c_LY_indexOfNext 92 = .ok (.ireturn, 1) := by decide +kernel
theorem d_LY_addNext_0 : decode c_LY_addNext 0 = .ok (.aload_n 0, 1) := by decide +kernel
theorem d_LY_addNext_1 : decode c_LY_addNext 1 = .ok (.getfield 58, 3) := by decide +kernel
theorem d_LY_addNext_4 : decode c_LY_addNext 4 = .ok (.aload_n 0, 1) := by decide +kernel
theorem d_LY_addNext_5 : decode c_LY_addNext 5 = .ok (.getfield 17, 3) := by decide +kernel
theorem d_LY_addNext_8 : decode c_LY_addNext 8 = .ok (.if_icmp .lt 7, 3) := by decide +kernel
theorem d_LY_addNext_11 : decode c_LY_addNext 11 = .ok (.sipush 255, 3) := by decide +kernel
theorem d_LY_addNext_14 : decode c_LY_addNext 14 = .ok (.ireturn, 1) := by decide +kernel
theorem d_LY_addNext_15 : decode c_LY_addNext 15 = .ok (.aload_n 0, 1) := by decide +kernel
theorem d_LY_addNext_16 : decode c_LY_addNext 16 = .ok (.getfield 58, 3) := by decide +kernel
theorem d_LY_addNext_19 : decode c_LY_addNext 19 = .ok (.istore 4, 2) := by decide +kernel
theorem d_LY_addNext_21 : decode c_LY_addNext 21 = .ok (.aload_n 0, 1) := by decide +kernel
theorem d_LY_addNext_22 : decode c_LY_addNext 22 = .ok (.getfield 43, 3) := by decide +kernel
theorem d_LY_addNext_25 : decode c_LY_addNext 25 = .ok (.iload 4, 2) := by decide +kernel
theorem d_LY_addNext_27 : decode c_LY_addNext 27 = .ok (.iload_n 1, 1) := by decide +kernel
theorem d_LY_addNext_28 : decode c_LY_addNext 28 = .ok (.iastore, 1) := by decide +kernel
theorem d_LY_addNext_29 : decode c_LY_addNext 29 = .ok (.aload_n 0, 1) := by decide +kernel
theorem d_LY_addNext_30 : decode c_LY_addNext 30 = .ok (.getfield 37, 3) := by decide +kernel
theorem d_LY_addNext_33 : decode c_LY_addNext 33 = .ok (.iload_n 3, 1) := by decide +kernel
theorem d_LY_addNext_34 : decode c_LY_addNext 34 = .ok (.iload_n 2, 1) := by decide +kernel
theorem d_LY_addNext_35 : decode c_LY_addNext 35 = .ok (.bipush 8, 2) := by decide +kernel
theorem d_LY_addNext_37 : decode c_LY_addNext 37 = .ok (.ishl, 1) := by decide +kernel
theorem d_LY_addNext_38 : decode c_LY_addNext 38 = .ok (.iload 4, 2) := by decide +kernel
theorem d_LY_addNext_40 : decode c_LY_addNext 40 = .ok (.ior, 1) := by decide +kernel
theorem d_LY_addNext_41 : decode c_LY_addNext 41 = .ok (.iastore, 1) := by decide +kernel
theorem d_LY_addNext_42 : decode c_LY_addNext 42 = .ok (.aload_n 0, 1) := by decide +kernel
theorem d_LY_addNext_43 : decode c_LY_addNext 43 = .ok (.dup, 1) := by decide +kernel
theorem d_LY_addNext_44 : decode c_LY_addNext 44 = .ok (.getfield 58, 3) := by decide +kernel
theorem d_LY_addNext_47 : decode c_LY_addNext 47 = .ok (.iconst 1, 1) := by decide +kernel
theorem d_LY_addNext_48 : decode c_LY_addNext 48 = .ok (.iadd, 1) := by decide +kernel
theorem d_LY_addNext_49 : decode c_LY_addNext 49 = .ok (.putfield 58, 3) := by decide +kernel
theorem d_LY_addNext_52 : decode c_LY_addNext 52 = .ok (.iload 4, 2) := by decide +kernel
theorem d_LY_addNext_54 : decode c_LY_addNext 54 = .ok (.ireturn, 1) := by decide +kernel
theorem d_LY_weigh_0 : decode c_LY_weigh 0 = .ok (.aload_n 0, 1) := by decide +kernel
theorem d_LY_weigh_1 : decode c_LY_weigh 1 = .ok (.lload_n 1, 1) := by decide +kernel
theorem d_LY_weigh_2 : decode c_LY_weigh 2 = .ok (.putfield 91, 3) := by decide +kernel
theorem d_LY_weigh_5 : decode c_LY_weigh 5 = .ok (.aload_n 0, 1) := by decide +kernel
theorem d_LY_weigh_6 : decode c_LY_weigh 6 = .ok (.lload_n 3, 1) := by decide +kernel
theorem d_LY_weigh_7 : decode c_LY_weigh 7 = .ok (.putfield 95, 3) := by decide +kernel
theorem d_LY_weigh_10 : decode c_LY_weigh 10 = .ok (.aload_n 0, 1) := by decide +kernel
theorem d_LY_weigh_11 : decode c_LY_weigh 11 = .ok (.getfield 7, 3) := by decide +kernel
theorem d_LY_weigh_14 : decode c_LY_weigh 14 = .ok (.getfield 21, 3) := by decide +kernel
theorem d_LY_weigh_17 : decode c_LY_weigh 17 = .ok (.iconst 1, 1) := by decide +kernel
theorem d_LY_weigh_18 : decode c_LY_weigh 18 = .ok (.isub, 1) := by decide +kernel
theorem d_LY_weigh_19 : decode c_LY_weigh 19 = .ok (.istore 5, 2) := by decide +kernel
theorem d_LY_weigh_21 : decode c_LY_weigh 21 = .ok (.iload 5, 2) := by decide +kernel
theorem d_LY_weigh_23 : decode c_LY_weigh 23 = .ok (.ifCond .lt 53, 3) := by decide +kernel
theorem d_LY_weigh_26 : decode c_LY_weigh 26 = .ok (.iconst 0, 1) := by decide +kernel
theorem d_LY_weigh_27 : decode c_LY_weigh 27 = .ok (.istore 6, 2) := by decide +kernel
theorem d_LY_weigh_29 : decode c_LY_weigh 29 = .ok (.iload 6, 2) := by decide +kernel
theorem d_LY_weigh_31 : decode c_LY_weigh 31 = .ok (.aload_n 0, 1) := by decide +kernel
theorem d_LY_weigh_32 : decode c_LY_weigh 32 = .ok (.getfield 26, 3) := by decide +kernel
theorem d_LY_weigh_35 : decode c_LY_weigh 35 = .ok (.iload 5, 2) := by decide +kernel
theorem d_LY_weigh_37 : decode c_LY_weigh 37 = .ok (.iaload, 1) := by decide +kernel
theorem d_LY_weigh_38 : decode c_LY_weigh 38 = .ok (.if_icmp .ge 32, 3) := by decide +kernel
theorem d_LY_weigh_41 : decode c_LY_weigh 41 = .ok (.aload_n 0, 1) := by decide +kernel
theorem d_LY_weigh_42 : decode c_LY_weigh 42 = .ok (.getfield 33, 3) := by decide +kernel
theorem d_LY_weigh_45 : decode c_LY_weigh 45 = .ok (.iload 5, 2) := by decide +kernel
theorem d_LY_weigh_47 : decode c_LY_weigh 47 = .ok (.aload_n 0, 1) := by decide +kernel
theorem d_LY_weigh_48 : decode c_LY_weigh 48 = .ok (.getfield 17, 3) := by decide +kernel
theorem d_LY_weigh_51 : decode c_LY_weigh 51 = .ok (.imul, 1) := by decide +kernel
theorem d_LY_weigh_52 : decode c_LY_weigh 52 = .ok (.iload 6, 2) := by decide +kernel
theorem d_LY_weigh_54 : decode c_LY_weigh 54 = .ok (.iadd, 1) := by decide +kernel
theorem d_LY_weigh_55 : decode c_LY_weigh 55 = .ok (.aload_n 0, 1) := by decide +kernel
theorem d_LY_weigh_56 : decode c_LY_weigh 56 = .ok (.iload 5, 2) := by decide +kernel
theorem d_LY_weigh_58 : decode c_LY_weigh 58 = .ok (.iload 6, 2) := by decide +kernel
theorem d_LY_weigh_60 : decode c_LY_weigh 60 = .ok (.invokevirtual 98, 3) := by decide +kernel
theorem d_LY_weigh_63 : decode c_LY_weigh 63 = .ok (.lastore, 1) := by decide +kernel
theorem d_LY_weigh_64 : decode c_LY_weigh 64 = .ok (.iinc 6 1, 3) := by decide +kernel
theorem d_LY_weigh_67 : decode c_LY_weigh 67 = .ok (.goto (-38), 3) := by decide +kernel
theorem d_LY_weigh_70 : decode c_LY_weigh 70 = .ok (.iinc 5 (-1), 3) := by decide +kernel
theorem d_LY_weigh_73 : decode c_LY_weigh 73 = .ok (.goto (-52), 3) := by decide +kernel
theorem d_LY_weigh_76 : decode c_LY_weigh 76 = .ok (.return_, 1) := by decide +kernel
theorem d_LY_waysFrom_0 : decode c_LY_waysFrom 0 = .ok (.lconst 0, 1) := by decide +kernel
theorem d_LY_waysFrom_1 : decode c_LY_waysFrom 1 = .ok (.lstore_n 3, 1) := by decide +kernel
theorem d_LY_waysFrom_2 : decode c_LY_waysFrom 2 = .ok (.iconst 0, 1) := by decide +kernel
theorem d_LY_waysFrom_3 : decode c_LY_waysFrom 3 = .ok (.istore 5, 2) := by decide +kernel
theorem d_LY_waysFrom_5 : decode c_LY_waysFrom 5 = .ok (.iload 5, 2) := by decide +kernel
theorem d_LY_waysFrom_7 : decode c_LY_waysFrom 7 = .ok (.iconst 4, 1) := by decide +kernel
theorem d_LY_waysFrom_8 : decode c_LY_waysFrom 8 = .ok (.if_icmp .ge 20, 3) := by decide +kernel
theorem d_LY_waysFrom_11 : decode c_LY_waysFrom 11 = .ok (.lload_n 3, 1) := by decide +kernel
theorem d_LY_waysFrom_12 : decode c_LY_waysFrom 12 = .ok (.aload_n 0, 1) := by decide +kernel
theorem d_LY_waysFrom_13 : decode c_LY_waysFrom 13 = .ok (.iload_n 1, 1) := by decide +kernel
theorem d_LY_waysFrom_14 : decode c_LY_waysFrom 14 = .ok (.iload_n 2, 1) := by decide +kernel
theorem d_LY_waysFrom_15 : decode c_LY_waysFrom 15 = .ok (.iload 5, 2) := by decide +kernel
theorem d_LY_waysFrom_17 : decode c_LY_waysFrom 17 = .ok (.invokevirtual 102, 3) := by decide +kernel
theorem d_LY_waysFrom_20 : decode c_LY_waysFrom 20 = .ok (.ladd, 1) := by decide +kernel
theorem d_LY_waysFrom_21 : decode c_LY_waysFrom 21 = .ok (.lstore_n 3, 1) := by decide +kernel
theorem d_LY_waysFrom_22 : decode c_LY_waysFrom 22 = .ok (.iinc 5 1, 3) := by decide +kernel
theorem d_LY_waysFrom_25 : decode c_LY_waysFrom 25 = .ok (.goto (-20), 3) := by decide +kernel
theorem d_LY_waysFrom_28 : decode c_LY_waysFrom 28 = .ok (.lload_n 3, 1) := by decide +kernel
theorem d_LY_waysFrom_29 : decode c_LY_waysFrom 29 = .ok (.lreturn, 1) := by decide +kernel
theorem d_LY_waysBy_0 : decode c_LY_waysBy 0 = .ok (.aload_n 0, 1) := by decide +kernel
theorem d_LY_waysBy_1 : decode c_LY_waysBy 1 = .ok (.iload_n 1, 1) := by decide +kernel
theorem d_LY_waysBy_2 : decode c_LY_waysBy 2 = .ok (.iload_n 2, 1) := by decide +kernel
theorem d_LY_waysBy_3 : decode c_LY_waysBy 3 = .ok (.iload_n 3, 1) := by decide +kernel
theorem d_LY_waysBy_4 : decode c_LY_waysBy 4 = .ok (.invokevirtual 106, 3) := by decide +kernel
theorem d_LY_waysBy_7 : decode c_LY_waysBy 7 = .ok (.istore 4, 2) := by decide +kernel
theorem d_LY_waysBy_9 : decode c_LY_waysBy 9 = .ok (.iload 4, 2) := by decide +kernel
theorem d_LY_waysBy_11 : decode c_LY_waysBy 11 = .ok (.aload_n 0, 1) := by decide +kernel
theorem d_LY_waysBy_12 : decode c_LY_waysBy 12 = .ok (.getfield 26, 3) := by decide +kernel
theorem d_LY_waysBy_15 : decode c_LY_waysBy 15 = .ok (.iload_n 1, 1) := by decide +kernel
theorem d_LY_waysBy_16 : decode c_LY_waysBy 16 = .ok (.iconst 1, 1) := by decide +kernel
theorem d_LY_waysBy_17 : decode c_LY_waysBy 17 = .ok (.iadd, 1) := by decide +kernel
theorem d_LY_waysBy_18 : decode c_LY_waysBy 18 = .ok (.iaload, 1) := by decide +kernel
theorem d_LY_waysBy_19 : decode c_LY_waysBy 19 = .ok (.if_icmp .ge 12, 3) := by decide +kernel
theorem d_LY_waysBy_22 : decode c_LY_waysBy 22 = .ok (.aload_n 0, 1) := by decide +kernel
theorem d_LY_waysBy_23 : decode c_LY_waysBy 23 = .ok (.iload_n 1, 1) := by decide +kernel
theorem d_LY_waysBy_24 : decode c_LY_waysBy 24 = .ok (.iload_n 3, 1) := by decide +kernel
theorem d_LY_waysBy_25 : decode c_LY_waysBy 25 = .ok (.invokevirtual 109, 3) := by decide +kernel
theorem d_LY_waysBy_28 : decode c_LY_waysBy 28 = .ok (.ifCond .ne 5, 3) := by decide +kernel
theorem d_LY_waysBy_31 : decode c_LY_waysBy 31 = .ok (.lconst 0, 1) := by decide +kernel
theorem d_LY_waysBy_32 : decode c_LY_waysBy 32 = .ok (.lreturn, 1) := by decide +kernel
theorem d_LY_waysBy_33 : decode c_LY_waysBy 33 = .ok (.aload_n 0, 1) := by decide +kernel
theorem d_LY_waysBy_34 : decode c_LY_waysBy 34 = .ok (.getfield 33, 3) := by decide +kernel
theorem d_LY_waysBy_37 : decode c_LY_waysBy 37 = .ok (.iload_n 1, 1) := by decide +kernel
theorem d_LY_waysBy_38 : decode c_LY_waysBy 38 = .ok (.iconst 1, 1) := by decide +kernel
theorem d_LY_waysBy_39 : decode c_LY_waysBy 39 = .ok (.iadd, 1) := by decide +kernel
theorem d_LY_waysBy_40 : decode c_LY_waysBy 40 = .ok (.aload_n 0, 1) := by decide +kernel
theorem d_LY_waysBy_41 : decode c_LY_waysBy 41 = .ok (.getfield 17, 3) := by decide +kernel
theorem d_LY_waysBy_44 : decode c_LY_waysBy 44 = .ok (.imul, 1) := by decide +kernel
theorem d_LY_waysBy_45 : decode c_LY_waysBy 45 = .ok (.iload 4, 2) := by decide +kernel
theorem d_LY_waysBy_47 : decode c_LY_waysBy 47 = .ok (.iadd, 1) := by decide +kernel
theorem d_LY_waysBy_48 : decode c_LY_waysBy 48 = .ok (.laload, 1) := by decide +kernel
theorem d_LY_waysBy_49 : decode c_LY_waysBy 49 = .ok (.lreturn, 1) := by decide +kernel
theorem d_LY_leadBy_0 : decode c_LY_leadBy 0 = .ok (.aload_n 0, 1) := by decide +kernel
theorem d_LY_leadBy_1 : decode c_LY_leadBy 1 = .ok (.getfield 30, 3) := by decide +kernel
theorem d_LY_leadBy_4 : decode c_LY_leadBy 4 = .ok (.iload_n 1, 1) := by decide +kernel
theorem d_LY_leadBy_5 : decode c_LY_leadBy 5 = .ok (.aload_n 0, 1) := by decide +kernel
theorem d_LY_leadBy_6 : decode c_LY_leadBy 6 = .ok (.getfield 17, 3) := by decide +kernel
theorem d_LY_leadBy_9 : decode c_LY_leadBy 9 = .ok (.imul, 1) := by decide +kernel
theorem d_LY_leadBy_10 : decode c_LY_leadBy 10 = .ok (.iload_n 2, 1) := by decide +kernel
theorem d_LY_leadBy_11 : decode c_LY_leadBy 11 = .ok (.iadd, 1) := by decide +kernel
theorem d_LY_leadBy_12 : decode c_LY_leadBy 12 = .ok (.iaload, 1) := by decide +kernel
theorem d_LY_leadBy_13 : decode c_LY_leadBy 13 = .ok (.bipush 8, 2) := by decide +kernel
theorem d_LY_leadBy_15 : decode c_LY_leadBy 15 = .ok (.iload_n 3, 1) := by decide +kernel
theorem d_LY_leadBy_16 : decode c_LY_leadBy 16 = .ok (.imul, 1) := by decide +kernel
theorem d_LY_leadBy_17 : decode c_LY_leadBy 17 = .ok (.iushr, 1) := by decide +kernel
theorem d_LY_leadBy_18 : decode c_LY_leadBy 18 = .ok (.sipush 255, 3) := by decide +kernel
theorem d_LY_leadBy_21 : decode c_LY_leadBy 21 = .ok (.iand, 1) := by decide +kernel
theorem d_LY_leadBy_22 : decode c_LY_leadBy 22 = .ok (.ireturn, 1) := by decide +kernel
theorem d_LY_isAllowed_0 : decode c_LY_isAllowed 0 = .ok (.iload_n 1, 1) := by decide +kernel
theorem d_LY_isAllowed_1 : decode c_LY_isAllowed 1 = .ok (.invokestatic 113, 3) := by decide +kernel
theorem d_LY_isAllowed_4 : decode c_LY_isAllowed 4 = .ok (.istore_n 3, 1) := by decide +kernel
theorem d_LY_isAllowed_5 : decode c_LY_isAllowed 5 = .ok (.aload_n 0, 1) := by decide +kernel
theorem d_LY_isAllowed_6 : decode c_LY_isAllowed 6 = .ok (.getfield 91, 3) := by decide +kernel
theorem d_LY_isAllowed_9 : decode c_LY_isAllowed 9 = .ok (.iload_n 3, 1) := by decide +kernel
theorem d_LY_isAllowed_10 : decode c_LY_isAllowed 10 = .ok (.lushr, 1) := by decide +kernel
theorem d_LY_isAllowed_11 : decode c_LY_isAllowed 11 = .ok (.l2i, 1) := by decide +kernel
theorem d_LY_isAllowed_12 : decode c_LY_isAllowed 12 = .ok (.iconst 3, 1) := by decide +kernel
theorem d_LY_isAllowed_13 : decode c_LY_isAllowed 13 = .ok (.iand, 1) := by decide +kernel
theorem d_LY_isAllowed_14 : decode c_LY_isAllowed 14 = .ok (.istore 4, 2) := by decide +kernel
theorem d_LY_isAllowed_16 : decode c_LY_isAllowed 16 = .ok (.aload_n 0, 1) := by decide +kernel
theorem d_LY_isAllowed_17 : decode c_LY_isAllowed 17 = .ok (.getfield 95, 3) := by decide +kernel
theorem d_LY_isAllowed_20 : decode c_LY_isAllowed 20 = .ok (.iload_n 3, 1) := by decide +kernel
theorem d_LY_isAllowed_21 : decode c_LY_isAllowed 21 = .ok (.lushr, 1) := by decide +kernel
theorem d_LY_isAllowed_22 : decode c_LY_isAllowed 22 = .ok (.l2i, 1) := by decide +kernel
theorem d_LY_isAllowed_23 : decode c_LY_isAllowed 23 = .ok (.iconst 3, 1) := by decide +kernel
theorem d_LY_isAllowed_24 : decode c_LY_isAllowed 24 = .ok (.iand, 1) := by decide +kernel
theorem d_LY_isAllowed_25 : decode c_LY_isAllowed 25 = .ok (.istore 5, 2) := by decide +kernel
theorem d_LY_isAllowed_27 : decode c_LY_isAllowed 27 = .ok (.iload_n 2, 1) := by decide +kernel
theorem d_LY_isAllowed_28 : decode c_LY_isAllowed 28 = .ok (.iload 4, 2) := by decide +kernel
theorem d_LY_isAllowed_30 : decode c_LY_isAllowed 30 = .ok (.iand, 1) := by decide +kernel
theorem d_LY_isAllowed_31 : decode c_LY_isAllowed 31 = .ok (.iload 4, 2) := by decide +kernel
theorem d_LY_isAllowed_33 : decode c_LY_isAllowed 33 = .ok (.if_icmp .ne 14, 3) := by decide +kernel
theorem d_LY_isAllowed_36 : decode c_LY_isAllowed 36 = .ok (.iload_n 2, 1) := by decide +kernel
theorem d_LY_isAllowed_37 : decode c_LY_isAllowed 37 = .ok (.iload 5, 2) := by decide +kernel
theorem d_LY_isAllowed_39 : decode c_LY_isAllowed 39 = .ok (.iand, 1) := by decide +kernel
theorem d_LY_isAllowed_40 : decode c_LY_isAllowed 40 = .ok (.ifCond .ne 7, 3) := by decide +kernel
theorem d_LY_isAllowed_43 : decode c_LY_isAllowed 43 = .ok (.iconst 1, 1) := by decide +kernel
theorem d_LY_isAllowed_44 : decode c_LY_isAllowed 44 = .ok (.goto 4, 3) := by decide +kernel
theorem d_LY_isAllowed_47 : decode c_LY_isAllowed 47 = .ok (.iconst 0, 1) := by decide +kernel
theorem d_LY_isAllowed_48 : decode c_LY_isAllowed 48 = .ok (.ireturn, 1) := by decide +kernel
theorem d_LY_total_0 : decode c_LY_total 0 = .ok (.aload_n 0, 1) := by decide +kernel
theorem d_LY_total_1 : decode c_LY_total 1 = .ok (.getfield 33, 3) := by decide +kernel
theorem d_LY_total_4 : decode c_LY_total 4 = .ok (.iconst 0, 1) := by decide +kernel
theorem d_LY_total_5 : decode c_LY_total 5 = .ok (.laload, 1) := by decide +kernel
theorem d_LY_total_6 : decode c_LY_total 6 = .ok (.lreturn, 1) := by decide +kernel
theorem d_LY_wayAt_0 : decode c_LY_wayAt 0 = .ok (.lconst 0, 1) := by decide +kernel
theorem d_LY_wayAt_1 : decode c_LY_wayAt 1 = .ok (.lstore_n 3, 1) := by decide +kernel
theorem d_LY_wayAt_2 : decode c_LY_wayAt 2 = .ok (.lload_n 1, 1) := by decide +kernel
theorem d_LY_wayAt_3 : decode c_LY_wayAt 3 = .ok (.lstore 5, 2) := by decide +kernel
theorem d_LY_wayAt_5 : decode c_LY_wayAt 5 = .ok (.iconst 0, 1) := by decide +kernel
theorem d_LY_wayAt_6 : decode c_LY_wayAt 6 = .ok (.istore 7, 2) := by decide +kernel
theorem d_LY_wayAt_8 : decode c_LY_wayAt 8 = .ok (.iconst 0, 1) := by decide +kernel
theorem d_LY_wayAt_9 : decode c_LY_wayAt 9 = .ok (.istore 8, 2) := by decide +kernel
theorem d_LY_wayAt_11 : decode c_LY_wayAt 11 = .ok (.iload 8, 2) := by decide +kernel
theorem d_LY_wayAt_13 : decode c_LY_wayAt 13 = .ok (.aload_n 0, 1) := by decide +kernel
theorem d_LY_wayAt_14 : decode c_LY_wayAt 14 = .ok (.getfield 7, 3) := by decide +kernel
theorem d_LY_wayAt_17 : decode c_LY_wayAt 17 = .ok (.getfield 21, 3) := by decide +kernel
theorem d_LY_wayAt_20 : decode c_LY_wayAt 20 = .ok (.if_icmp .ge 99, 3) := by decide +kernel
theorem d_LY_wayAt_23 : decode c_LY_wayAt 23 = .ok (.iconst 0, 1) := by decide +kernel
theorem d_LY_wayAt_24 : decode c_LY_wayAt 24 = .ok (.istore 9, 2) := by decide +kernel
theorem d_LY_wayAt_26 : decode c_LY_wayAt 26 = .ok (.iload 9, 2) := by decide +kernel
theorem d_LY_wayAt_28 : decode c_LY_wayAt 28 = .ok (.iconst 3, 1) := by decide +kernel
theorem d_LY_wayAt_29 : decode c_LY_wayAt 29 = .ok (.if_icmp .ge 40, 3) := by decide +kernel
theorem d_LY_wayAt_32 : decode c_LY_wayAt 32 = .ok (.lload 5, 2) := by decide +kernel
theorem d_LY_wayAt_34 : decode c_LY_wayAt 34 = .ok (.aload_n 0, 1) := by decide +kernel
theorem d_LY_wayAt_35 : decode c_LY_wayAt 35 = .ok (.iload 8, 2) := by decide +kernel
theorem d_LY_wayAt_37 : decode c_LY_wayAt 37 = .ok (.iload 7, 2) := by decide +kernel
theorem d_LY_wayAt_39 : decode c_LY_wayAt 39 = .ok (.iload 9, 2) := by decide +kernel
theorem d_LY_wayAt_41 : decode c_LY_wayAt 41 = .ok (.invokevirtual 102, 3) := by decide +kernel
theorem d_LY_wayAt_44 : decode c_LY_wayAt 44 = .ok (.lcmp, 1) := by decide +kernel
theorem d_LY_wayAt_45 : decode c_LY_wayAt 45 = .ok (.ifCond .lt 24, 3) := by decide +kernel
theorem d_LY_wayAt_48 : decode c_LY_wayAt 48 = .ok (.lload 5, 2) := by decide +kernel
theorem d_LY_wayAt_50 : decode c_LY_wayAt 50 = .ok (.aload_n 0, 1) := by decide +kernel
theorem d_LY_wayAt_51 : decode c_LY_wayAt 51 = .ok (.iload 8, 2) := by decide +kernel
theorem d_LY_wayAt_53 : decode c_LY_wayAt 53 = .ok (.iload 7, 2) := by decide +kernel
theorem d_LY_wayAt_55 : decode c_LY_wayAt 55 = .ok (.iload 9, 2) := by decide +kernel
theorem d_LY_wayAt_57 : decode c_LY_wayAt 57 = .ok (.invokevirtual 102, 3) := by decide +kernel
theorem d_LY_wayAt_60 : decode c_LY_wayAt 60 = .ok (.lsub, 1) := by decide +kernel
theorem d_LY_wayAt_61 : decode c_LY_wayAt 61 = .ok (.lstore 5, 2) := by decide +kernel
theorem d_LY_wayAt_63 : decode c_LY_wayAt 63 = .ok (.iinc 9 1, 3) := by decide +kernel
theorem d_LY_wayAt_66 : decode c_LY_wayAt 66 = .ok (.goto (-40), 3) := by decide +kernel
theorem d_LY_wayAt_69 : decode c_LY_wayAt 69 = .ok (.aload_n 0, 1) := by decide +kernel
theorem d_LY_wayAt_70 : decode c_LY_wayAt 70 = .ok (.iload 8, 2) := by decide +kernel
theorem d_LY_wayAt_72 : decode c_LY_wayAt 72 = .ok (.iload 7, 2) := by decide +kernel
theorem d_LY_wayAt_74 : decode c_LY_wayAt 74 = .ok (.iload 9, 2) := by decide +kernel
theorem d_LY_wayAt_76 : decode c_LY_wayAt 76 = .ok (.invokevirtual 106, 3) := by decide +kernel
theorem d_LY_wayAt_79 : decode c_LY_wayAt 79 = .ok (.istore 10, 2) := by decide +kernel
theorem d_LY_wayAt_81 : decode c_LY_wayAt 81 = .ok (.iload 10, 2) := by decide +kernel
theorem d_LY_wayAt_83 : decode c_LY_wayAt 83 = .ok (.aload_n 0, 1) := by decide +kernel
theorem d_LY_wayAt_84 : decode c_LY_wayAt 84 = .ok (.getfield 26, 3) := by decide +kernel
theorem d_LY_wayAt_87 : decode c_LY_wayAt 87 = .ok (.iload 8, 2) := by decide +kernel
theorem d_LY_wayAt_89 : decode c_LY_wayAt 89 = .ok (.iconst 1, 1) := by decide +kernel
theorem d_LY_wayAt_90 : decode c_LY_wayAt 90 = .ok (.iadd, 1) := by decide +kernel
theorem d_LY_wayAt_91 : decode c_LY_wayAt 91 = .ok (.iaload, 1) := by decide +kernel
theorem d_LY_wayAt_92 : decode c_LY_wayAt 92 = .ok (.if_icmp .lt 5, 3) := by decide +kernel
theorem d_LY_wayAt_95 : decode c_LY_wayAt 95 = .ok (.lload_n 3, 1) := by decide +kernel
theorem d_LY_wayAt_96 : decode c_LY_wayAt 96 = .ok (.lreturn, 1) := by decide +kernel
theorem d_LY_wayAt_97 : decode c_LY_wayAt 97 = .ok (.lload_n 3, 1) := by decide +kernel
theorem d_LY_wayAt_98 : decode c_LY_wayAt 98 = .ok (.iload 9, 2) := by decide +kernel
theorem d_LY_wayAt_100 : decode c_LY_wayAt 100 = .ok (.i2l, 1) := by decide +kernel
theorem d_LY_wayAt_101 : decode c_LY_wayAt 101 = .ok (.iload 8, 2) := by decide +kernel
theorem d_LY_wayAt_103 : decode c_LY_wayAt 103 = .ok (.invokestatic 113, 3) := by decide +kernel
theorem d_LY_wayAt_106 : decode c_LY_wayAt 106 = .ok (.lshl, 1) := by decide +kernel
theorem d_LY_wayAt_107 : decode c_LY_wayAt 107 = .ok (.lor, 1) := by decide +kernel
theorem d_LY_wayAt_108 : decode c_LY_wayAt 108 = .ok (.lstore_n 3, 1) := by decide +kernel
theorem d_LY_wayAt_109 : decode c_LY_wayAt 109 = .ok (.iload 10, 2) := by decide +kernel
theorem d_LY_wayAt_111 : decode c_LY_wayAt 111 = .ok (.istore 7, 2) := by decide +kernel
theorem d_LY_wayAt_113 : decode c_LY_wayAt 113 = .ok (.iinc 8 1, 3) := by decide +kernel
theorem d_LY_wayAt_116 : decode c_LY_wayAt 116 = .ok (.goto (-105), 3) := by decide +kernel
theorem d_LY_wayAt_119 : decode c_LY_wayAt 119 = .ok (.lload_n 3, 1) := by decide +kernel
theorem d_LY_wayAt_120 : decode c_LY_wayAt 120 = .ok (.lreturn, 1) := by decide +kernel
theorem d_JI_bitCount_0 : decode c_JI_bitCount 0 = .ok (.iload_n 0, 1) := by decide +kernel
theorem d_JI_bitCount_1 : decode c_JI_bitCount 1 = .ok (.iload_n 0, 1) := by decide +kernel
theorem d_JI_bitCount_2 : decode c_JI_bitCount 2 = .ok (.iconst 1, 1) := by decide +kernel
theorem d_JI_bitCount_3 : decode c_JI_bitCount 3 = .ok (.iushr, 1) := by decide +kernel
theorem d_JI_bitCount_4 : decode c_JI_bitCount 4 = .ok (.ldc_w 265, 3) := by decide +kernel
theorem d_JI_bitCount_7 : decode c_JI_bitCount 7 = .ok (.iand, 1) := by decide +kernel
theorem d_JI_bitCount_8 : decode c_JI_bitCount 8 = .ok (.isub, 1) := by decide +kernel
theorem d_JI_bitCount_9 : decode c_JI_bitCount 9 = .ok (.istore_n 0, 1) := by decide +kernel
theorem d_JI_bitCount_10 : decode c_JI_bitCount 10 = .ok (.iload_n 0, 1) := by decide +kernel
theorem d_JI_bitCount_11 : decode c_JI_bitCount 11 = .ok (.ldc_w 266, 3) := by decide +kernel
theorem d_JI_bitCount_14 : decode c_JI_bitCount 14 = .ok (.iand, 1) := by decide +kernel
theorem d_JI_bitCount_15 : decode c_JI_bitCount 15 = .ok (.iload_n 0, 1) := by decide +kernel
theorem d_JI_bitCount_16 : decode c_JI_bitCount 16 = .ok (.iconst 2, 1) := by decide +kernel
theorem d_JI_bitCount_17 : decode c_JI_bitCount 17 = .ok (.iushr, 1) := by decide +kernel
theorem d_JI_bitCount_18 : decode c_JI_bitCount 18 = .ok (.ldc_w 266, 3) := by decide +kernel
theorem d_JI_bitCount_21 : decode c_JI_bitCount 21 = .ok (.iand, 1) := by decide +kernel
theorem d_JI_bitCount_22 : decode c_JI_bitCount 22 = .ok (.iadd, 1) := by decide +kernel
theorem d_JI_bitCount_23 : decode c_JI_bitCount 23 = .ok (.istore_n 0, 1) := by decide +kernel
theorem d_JI_bitCount_24 : decode c_JI_bitCount 24 = .ok (.iload_n 0, 1) := by decide +kernel
theorem d_JI_bitCount_25 : decode c_JI_bitCount 25 = .ok (.iload_n 0, 1) := by decide +kernel
theorem d_JI_bitCount_26 : decode c_JI_bitCount 26 = .ok (.iconst 4, 1) := by decide +kernel
theorem d_JI_bitCount_27 : decode c_JI_bitCount 27 = .ok (.iushr, 1) := by decide +kernel
theorem d_JI_bitCount_28 : decode c_JI_bitCount 28 = .ok (.iadd, 1) := by decide +kernel
theorem d_JI_bitCount_29 : decode c_JI_bitCount 29 = .ok (.ldc_w 267, 3) := by decide +kernel
theorem d_JI_bitCount_32 : decode c_JI_bitCount 32 = .ok (.iand, 1) := by decide +kernel
theorem d_JI_bitCount_33 : decode c_JI_bitCount 33 = .ok (.istore_n 0, 1) := by decide +kernel
theorem d_JI_bitCount_34 : decode c_JI_bitCount 34 = .ok (.iload_n 0, 1) := by decide +kernel
theorem d_JI_bitCount_35 : decode c_JI_bitCount 35 = .ok (.iload_n 0, 1) := by decide +kernel
theorem d_JI_bitCount_36 : decode c_JI_bitCount 36 = .ok (.bipush 8, 2) := by decide +kernel
theorem d_JI_bitCount_38 : decode c_JI_bitCount 38 = .ok (.iushr, 1) := by decide +kernel
theorem d_JI_bitCount_39 : decode c_JI_bitCount 39 = .ok (.iadd, 1) := by decide +kernel
theorem d_JI_bitCount_40 : decode c_JI_bitCount 40 = .ok (.istore_n 0, 1) := by decide +kernel
theorem d_JI_bitCount_41 : decode c_JI_bitCount 41 = .ok (.iload_n 0, 1) := by decide +kernel
theorem d_JI_bitCount_42 : decode c_JI_bitCount 42 = .ok (.iload_n 0, 1) := by decide +kernel
theorem d_JI_bitCount_43 : decode c_JI_bitCount 43 = .ok (.bipush 16, 2) := by decide +kernel
theorem d_JI_bitCount_45 : decode c_JI_bitCount 45 = .ok (.iushr, 1) := by decide +kernel
theorem d_JI_bitCount_46 : decode c_JI_bitCount 46 = .ok (.iadd, 1) := by decide +kernel
theorem d_JI_bitCount_47 : decode c_JI_bitCount 47 = .ok (.istore_n 0, 1) := by decide +kernel
theorem d_JI_bitCount_48 : decode c_JI_bitCount 48 = .ok (.iload_n 0, 1) := by decide +kernel
theorem d_JI_bitCount_49 : decode c_JI_bitCount 49 = .ok (.bipush 63, 2) := by decide +kernel
theorem d_JI_bitCount_51 : decode c_JI_bitCount 51 = .ok (.iand, 1) := by decide +kernel
theorem d_JI_bitCount_52 : decode c_JI_bitCount 52 = .ok (.ireturn, 1) := by decide +kernel
theorem d_JA_fill_0 : decode c_JA_fill 0 = .ok (.iconst 0, 1) := by decide +kernel
theorem d_JA_fill_1 : decode c_JA_fill 1 = .ok (.istore_n 2, 1) := by decide +kernel
theorem d_JA_fill_2 : decode c_JA_fill 2 = .ok (.aload_n 0, 1) := by decide +kernel
theorem d_JA_fill_3 : decode c_JA_fill 3 = .ok (.arraylength, 1) := by decide +kernel
theorem d_JA_fill_4 : decode c_JA_fill 4 = .ok (.istore_n 3, 1) := by decide +kernel
theorem d_JA_fill_5 : decode c_JA_fill 5 = .ok (.iload_n 2, 1) := by decide +kernel
theorem d_JA_fill_6 : decode c_JA_fill 6 = .ok (.iload_n 3, 1) := by decide +kernel
theorem d_JA_fill_7 : decode c_JA_fill 7 = .ok (.if_icmp .ge 13, 3) := by decide +kernel
theorem d_JA_fill_10 : decode c_JA_fill 10 = .ok (.aload_n 0, 1) := by decide +kernel
theorem d_JA_fill_11 : decode c_JA_fill 11 = .ok (.iload_n 2, 1) := by decide +kernel
theorem d_JA_fill_12 : decode c_JA_fill 12 = .ok (.iload_n 1, 1) := by decide +kernel
theorem d_JA_fill_13 : decode c_JA_fill 13 = .ok (.iastore, 1) := by decide +kernel
theorem d_JA_fill_14 : decode c_JA_fill 14 = .ok (.iinc 2 1, 3) := by decide +kernel
theorem d_JA_fill_17 : decode c_JA_fill 17 = .ok (.goto (-12), 3) := by decide +kernel
theorem d_JA_fill_20 : decode c_JA_fill 20 = .ok (.return_, 1) := by decide +kernel
theorem d_MD_init_0 : decode c_MD_init 0 = .ok (.aload_n 0, 1) := by decide +kernel
theorem d_MD_init_1 : decode c_MD_init 1 = .ok (.invokespecial 1, 3) := by decide +kernel
theorem d_MD_init_4 : decode c_MD_init 4 = .ok (.aload_n 0, 1) := by decide +kernel
theorem d_MD_init_5 : decode c_MD_init 5 = .ok (.bipush 25, 2) := by decide +kernel
theorem d_MD_init_7 : decode c_MD_init 7 = .ok (.newarray .boolean, 2) := by decide +kernel
theorem d_MD_init_9 : decode c_MD_init 9 = .ok (.putfield 7, 3) := by decide +kernel
theorem d_MD_init_12 : decode c_MD_init 12 = .ok (.aload_n 0, 1) := by decide +kernel
theorem d_MD_init_13 : decode c_MD_init 13 = .ok (.bipush 50, 2) := by decide +kernel
theorem d_MD_init_15 : decode c_MD_init 15 = .ok (.newarray .boolean, 2) := by decide +kernel
theorem d_MD_init_17 : decode c_MD_init 17 = .ok (.putfield 13, 3) := by decide +kernel
theorem d_MD_init_20 : decode c_MD_init 20 = .ok (.aload_n 0, 1) := by decide +kernel
theorem d_MD_init_21 : decode c_MD_init 21 = .ok (.iconst (-1), 1) := by decide +kernel
theorem d_MD_init_22 : decode c_MD_init 22 = .ok (.putfield 16, 3) := by decide +kernel
theorem d_MD_init_25 : decode c_MD_init 25 = .ok (.aload_n 0, 1) := by decide +kernel
theorem d_MD_init_26 : decode c_MD_init 26 = .ok (.iconst (-1), 1) := by decide +kernel
theorem d_MD_init_27 : decode c_MD_init 27 = .ok (.putfield 20, 3) := by decide +kernel
theorem d_MD_init_30 : decode c_MD_init 30 = .ok (.aload_n 0, 1) := by decide +kernel
theorem d_MD_init_31 : decode c_MD_init 31 = .ok (.bipush 80, 2) := by decide +kernel
theorem d_MD_init_33 : decode c_MD_init 33 = .ok (.newarray .int, 2) := by decide +kernel
theorem d_MD_init_35 : decode c_MD_init 35 = .ok (.putfield 23, 3) := by decide +kernel
theorem d_MD_init_38 : decode c_MD_init 38 = .ok (.aload_n 0, 1) := by decide +kernel
theorem d_MD_init_39 : decode c_MD_init 39 = .ok (.bipush 40, 2) := by decide +kernel
theorem d_MD_init_41 : decode c_MD_init 41 = .ok (.newarray .int, 2) := by decide +kernel
theorem d_MD_init_43 : decode c_MD_init 43 = .ok (.putfield 27, 3) := by decide +kernel
theorem d_MD_init_46 : decode c_MD_init 46 = .ok (.aload_n 0, 1) := by decide +kernel
theorem d_MD_init_47 : decode c_MD_init 47 = .ok (.ldc 30, 2) := by decide +kernel
theorem d_MD_init_49 : decode c_MD_init 49 = .ok (.newarray .long, 2) := by decide +kernel
theorem d_MD_init_51 : decode c_MD_init 51 = .ok (.putfield 31, 3) := by decide +kernel
theorem d_MD_init_54 : decode c_MD_init 54 = .ok (.aload_n 0, 1) := by decide +kernel
theorem d_MD_init_55 : decode c_MD_init 55 = .ok (.ldc 30, 2) := by decide +kernel
theorem d_MD_init_57 : decode c_MD_init 57 = .ok (.newarray .long, 2) := by decide +kernel
theorem d_MD_init_59 : decode c_MD_init 59 = .ok (.putfield 35, 3) := by decide +kernel
theorem d_MD_init_62 : decode c_MD_init 62 = .ok (.aload_n 0, 1) := by decide +kernel
theorem d_MD_init_63 : decode c_MD_init 63 = .ok (.bipush 26, 2) := by decide +kernel
theorem d_MD_init_65 : decode c_MD_init 65 = .ok (.newarray .int, 2) := by decide +kernel
theorem d_MD_init_67 : decode c_MD_init 67 = .ok (.putfield 38, 3) := by decide +kernel
theorem d_MD_init_70 : decode c_MD_init 70 = .ok (.aload_n 0, 1) := by decide +kernel
theorem d_MD_init_71 : decode c_MD_init 71 = .ok (.bipush 26, 2) := by decide +kernel
theorem d_MD_init_73 : decode c_MD_init 73 = .ok (.newarray .int, 2) := by decide +kernel
theorem d_MD_init_75 : decode c_MD_init 75 = .ok (.putfield 41, 3) := by decide +kernel
theorem d_MD_init_78 : decode c_MD_init 78 = .ok (.aload_n 0, 1) := by decide +kernel
theorem d_MD_init_79 : decode c_MD_init 79 = .ok (.bipush 26, 2) := by decide +kernel
theorem d_MD_init_81 : decode c_MD_init 81 = .ok (.newarray .long, 2) := by decide +kernel
theorem d_MD_init_83 : decode c_MD_init 83 = .ok (.putfield 44, 3) := by decide +kernel
theorem d_MD_init_86 : decode c_MD_init 86 = .ok (.aload_n 0, 1) := by decide +kernel
theorem d_MD_init_87 : decode c_MD_init 87 = .ok (.bipush 25, 2) := by decide +kernel
theorem d_MD_init_89 : decode c_MD_init 89 = .ok (.newarray .int, 2) := by decide +kernel
theorem d_MD_init_91 : decode c_MD_init 91 = .ok (.putfield 47, 3) := by decide +kernel
theorem d_MD_init_94 : decode c_MD_init 94 = .ok (.aload_n 0, 1) := by decide +kernel
theorem d_MD_init_95 : decode c_MD_init 95 = .ok (.bipush 25, 2) := by decide +kernel
theorem d_MD_init_97 : decode c_MD_init 97 = .ok (.newarray .int, 2) := by decide +kernel
theorem d_MD_init_99 : decode c_MD_init 99 = .ok (.putfield 50, 3) := by decide +kernel
theorem d_MD_init_102 : decode c_MD_init 102 = .ok (.aload_n 0, 1) := by decide +kernel
theorem d_MD_init_103 : decode c_MD_init 103 = .ok (.bipush 41, 2) := by decide +kernel
theorem d_MD_init_105 : decode c_MD_init 105 = .ok (.newarray .int, 2) := by decide +kernel
theorem d_MD_init_107 : decode c_MD_init 107 = .ok (.putfield 53, 3) := by decide +kernel
theorem d_MD_init_110 : decode c_MD_init 110 = .ok (.aload_n 0, 1) := by decide +kernel
theorem d_MD_init_111 : decode c_MD_init 111 = .ok (.bipush 25, 2) := by decide +kernel
theorem d_MD_init_113 : decode c_MD_init 113 = .ok (.newarray .int, 2) := by decide +kernel
theorem d_MD_init_115 : decode c_MD_init 115 = .ok (.putfield 56, 3) := by decide +kernel
theorem d_MD_init_118 : decode c_MD_init 118 = .ok (.aload_n 0, 1) := by decide +kernel
theorem d_MD_init_119 : decode c_MD_init 119 = .ok (.sipush 625, 3) := by decide +kernel
theorem d_MD_init_122 : decode c_MD_init 122 = .ok (.newarray .long, 2) := by decide +kernel
theorem d_MD_init_124 : decode c_MD_init 124 = .ok (.putfield 59, 3) := by decide +kernel
theorem d_MD_init_127 : decode c_MD_init 127 = .ok (.aload_n 0, 1) := by decide +kernel
theorem d_MD_init_128 : decode c_MD_init 128 = .ok (.iload_n 1, 1) := by decide +kernel
theorem d_MD_init_129 : decode c_MD_init 129 = .ok (.iconst 0, 1) := by decide +kernel
theorem d_MD_init_130 : decode c_MD_init 130 = .ok (.iconst 4, 1) := by decide +kernel
theorem d_MD_init_131 : decode c_MD_init 131 = .ok (.invokestatic 62, 3) := by decide +kernel
theorem d_MD_init_134 : decode c_MD_init 134 = .ok (.putfield 66, 3) := by decide +kernel
theorem d_MD_init_137 : decode c_MD_init 137 = .ok (.aload_n 0, 1) := by decide +kernel
theorem d_MD_init_138 : decode c_MD_init 138 = .ok (.iload_n 2, 1) := by decide +kernel
theorem d_MD_init_139 : decode c_MD_init 139 = .ok (.iconst 1, 1) := by decide +kernel
theorem d_MD_init_140 : decode c_MD_init 140 = .ok (.iconst 5, 1) := by decide +kernel
theorem d_MD_init_141 : decode c_MD_init 141 = .ok (.invokestatic 62, 3) := by decide +kernel
theorem d_MD_init_144 : decode c_MD_init 144 = .ok (.putfield 69, 3) := by decide +kernel
theorem d_MD_init_147 : decode c_MD_init 147 = .ok (.aload_n 0, 1) := by decide +kernel
theorem d_MD_init_148 : decode c_MD_init 148 = .ok (.iload_n 3, 1) := by decide +kernel
theorem d_MD_init_149 : decode c_MD_init 149 = .ok (.iconst 1, 1) := by decide +kernel
theorem d_MD_init_150 : decode c_MD_init 150 = .ok (.iconst 5, 1) := by decide +kernel
theorem d_MD_init_151 : decode c_MD_init 151 = .ok (.invokestatic 62, 3) := by decide +kernel
theorem d_MD_init_154 : decode c_MD_init 154 = .ok (.putfield 72, 3) := by decide +kernel
theorem d_MD_init_157 : decode c_MD_init 157 = .ok (.aload_n 0, 1) := by decide +kernel
theorem d_MD_init_158 : decode c_MD_init 158 = .ok (.invokevirtual 75, 3) := by decide +kernel
theorem d_MD_init_161 : decode c_MD_init 161 = .ok (.return_, 1) := by decide +kernel
theorem d_MD_held_0 : decode c_MD_held 0 = .ok (.iload_n 0, 1) := by decide +kernel
theorem d_MD_held_1 : decode c_MD_held 1 = .ok (.iload_n 1, 1) := by decide +kernel
theorem d_MD_held_2 : decode c_MD_held 2 = .ok (.if_icmp .ge 7, 3) := by decide +kernel
theorem d_MD_held_5 : decode c_MD_held 5 = .ok (.iload_n 1, 1) := by decide +kernel
theorem d_MD_held_6 : decode c_MD_held 6 = .ok (.goto 13, 3) := by decide +kernel
theorem d_MD_held_9 : decode c_MD_held 9 = .ok (.iload_n 0, 1) := by decide +kernel
theorem d_MD_held_10 : decode c_MD_held 10 = .ok (.iload_n 2, 1) := by decide +kernel
theorem d_MD_held_11 : decode c_MD_held 11 = .ok (.if_icmp .le 7, 3) := by decide +kernel
theorem d_MD_held_14 : decode c_MD_held 14 = .ok (.iload_n 2, 1) := by decide +kernel
theorem d_MD_held_15 : decode c_MD_held 15 = .ok (.goto 4, 3) := by decide +kernel
theorem d_MD_held_18 : decode c_MD_held 18 = .ok (.iload_n 0, 1) := by decide +kernel
theorem d_MD_held_19 : decode c_MD_held 19 = .ok (.ireturn, 1) := by decide +kernel
theorem d_MD_places_0 : decode c_MD_places 0 = .ok (.aload_n 0, 1) := by decide +kernel
theorem d_MD_places_1 : decode c_MD_places 1 = .ok (.getfield 69, 3) := by decide +kernel
theorem d_MD_places_4 : decode c_MD_places 4 = .ok (.aload_n 0, 1) := by decide +kernel
theorem d_MD_places_5 : decode c_MD_places 5 = .ok (.getfield 72, 3) := by decide +kernel
theorem d_MD_places_8 : decode c_MD_places 8 = .ok (.imul, 1) := by decide +kernel
theorem d_MD_places_9 : decode c_MD_places 9 = .ok (.ireturn, 1) := by decide +kernel
theorem d_MD_isPlace_0 : decode c_MD_isPlace 0 = .ok (.iload_n 1, 1) := by decide +kernel
theorem d_MD_isPlace_1 : decode c_MD_isPlace 1 = .ok (.ifCond .lt 15, 3) := by decide +kernel
theorem d_MD_isPlace_4 : decode c_MD_isPlace 4 = .ok (.iload_n 1, 1) := by decide +kernel
theorem d_MD_isPlace_5 : decode c_MD_isPlace 5 = .ok (.aload_n 0, 1) := by decide +kernel
theorem d_MD_isPlace_6 : decode c_MD_isPlace 6 = .ok (.invokevirtual 81, 3) := by decide +kernel
theorem d_MD_isPlace_9 : decode c_MD_isPlace 9 = .ok (.if_icmp .ge 7, 3) := by decide +kernel
theorem d_MD_isPlace_12 : decode c_MD_isPlace 12 = .ok (.iconst 1, 1) := by decide +kernel
theorem d_MD_isPlace_13 : decode c_MD_isPlace 13 = .ok (.goto 4, 3) := by decide +kernel
theorem d_MD_isPlace_16 : decode c_MD_isPlace 16 = .ok (.iconst 0, 1) := by decide +kernel
theorem d_MD_isPlace_17 : decode c_MD_isPlace 17 = .ok (.ireturn, 1) := by decide +kernel
theorem d_MD_number_0 : decode c_MD_number 0 = .ok (.aload_n 0, 1) := by decide +kernel
theorem d_MD_number_1 : decode c_MD_number 1 = .ok (.iconst 0, 1) := by decide +kernel
theorem d_MD_number_2 : decode c_MD_number 2 = .ok (.putfield 85, 3) := by decide +kernel
theorem d_MD_number_5 : decode c_MD_number 5 = .ok (.iconst 0, 1) := by decide +kernel
theorem d_MD_number_6 : decode c_MD_number 6 = .ok (.istore_n 1, 1) := by decide +kernel
theorem d_MD_number_7 : decode c_MD_number 7 = .ok (.iload_n 1, 1) := by decide +kernel
theorem d_MD_number_8 : decode c_MD_number 8 = .ok (.aload_n 0, 1) := by decide +kernel
theorem d_MD_number_9 : decode c_MD_number 9 = .ok (.invokevirtual 81, 3) := by decide +kernel
theorem d_MD_number_12 : decode c_MD_number 12 = .ok (.if_icmp .ge 66, 3) := by decide +kernel
theorem d_MD_number_15 : decode c_MD_number 15 = .ok (.iload_n 1, 1) := by decide +kernel
theorem d_MD_number_16 : decode c_MD_number 16 = .ok (.aload_n 0, 1) := by decide +kernel
theorem d_MD_number_17 : decode c_MD_number 17 = .ok (.getfield 69, 3) := by decide +kernel
theorem d_MD_number_20 : decode c_MD_number 20 = .ok (.irem, 1) := by decide +kernel
theorem d_MD_number_21 : decode c_MD_number 21 = .ok (.aload_n 0, 1) := by decide +kernel
theorem d_MD_number_22 : decode c_MD_number 22 = .ok (.getfield 69, 3) := by decide +kernel
theorem d_MD_number_25 : decode c_MD_number 25 = .ok (.iconst 1, 1) := by decide +kernel
theorem d_MD_number_26 : decode c_MD_number 26 = .ok (.isub, 1) := by decide +kernel
theorem d_MD_number_27 : decode c_MD_number 27 = .ok (.if_icmp .ge 14, 3) := by decide +kernel
theorem d_MD_number_30 : decode c_MD_number 30 = .ok (.aload_n 0, 1) := by decide +kernel
theorem d_MD_number_31 : decode c_MD_number 31 = .ok (.iload_n 1, 1) := by decide +kernel
theorem d_MD_number_32 : decode c_MD_number 32 = .ok (.iload_n 1, 1) := by decide +kernel
theorem d_MD_number_33 : decode c_MD_number 33 = .ok (.iconst 1, 1) := by decide +kernel
theorem d_MD_number_34 : decode c_MD_number 34 = .ok (.iadd, 1) := by decide +kernel
theorem d_MD_number_35 : decode c_MD_number 35 = .ok (.iconst 2, 1) := by decide +kernel
theorem d_MD_number_36 : decode c_MD_number 36 = .ok (.iload_n 1, 1) := by decide +kernel
theorem d_MD_number_37 : decode c_MD_number 37 = .ok (.imul, 1) := by decide +kernel
theorem d_MD_number_38 : decode c_MD_number 38 = .ok (.invokevirtual 88, 3) := by decide +kernel
theorem d_MD_number_41 : decode c_MD_number 41 = .ok (.iload_n 1, 1) := by decide +kernel
theorem d_MD_number_42 : decode c_MD_number 42 = .ok (.aload_n 0, 1) := by decide +kernel
theorem d_MD_number_43 : decode c_MD_number 43 = .ok (.getfield 69, 3) := by decide +kernel
theorem d_MD_number_46 : decode c_MD_number 46 = .ok (.idiv, 1) := by decide +kernel
theorem d_MD_number_47 : decode c_MD_number 47 = .ok (.aload_n 0, 1) := by decide +kernel
theorem d_MD_number_48 : decode c_MD_number 48 = .ok (.getfield 72, 3) := by decide +kernel
theorem d_MD_number_51 : decode c_MD_number 51 = .ok (.iconst 1, 1) := by decide +kernel
theorem d_MD_number_52 : decode c_MD_number 52 = .ok (.isub, 1) := by decide +kernel
theorem d_MD_number_53 : decode c_MD_number 53 = .ok (.if_icmp .ge 19, 3) := by decide +kernel
theorem d_MD_number_56 : decode c_MD_number 56 = .ok (.aload_n 0, 1) := by decide +kernel
theorem d_MD_number_57 : decode c_MD_number 57 = .ok (.iload_n 1, 1) := by decide +kernel
theorem d_MD_number_58 : decode c_MD_number 58 = .ok (.iload_n 1, 1) := by decide +kernel
theorem d_MD_number_59 : decode c_MD_number 59 = .ok (.aload_n 0, 1) := by decide +kernel
theorem d_MD_number_60 : decode c_MD_number 60 = .ok (.getfield 69, 3) := by decide +kernel
theorem d_MD_number_63 : decode c_MD_number 63 = .ok (.iadd, 1) := by decide +kernel
theorem d_MD_number_64 : decode c_MD_number 64 = .ok (.iconst 2, 1) := by decide +kernel
theorem d_MD_number_65 : decode c_MD_number 65 = .ok (.iload_n 1, 1) := by decide +kernel
theorem d_MD_number_66 : decode c_MD_number 66 = .ok (.imul, 1) := by decide +kernel
theorem d_MD_number_67 : decode c_MD_number 67 = .ok (.iconst 1, 1) := by decide +kernel
theorem d_MD_number_68 : decode c_MD_number 68 = .ok (.iadd, 1) := by decide +kernel
theorem d_MD_number_69 : decode c_MD_number 69 = .ok (.invokevirtual 88, 3) := by decide +kernel
theorem d_MD_number_72 : decode c_MD_number 72 = .ok (.iinc 1 1, 3) := by decide +kernel
theorem d_MD_number_75 : decode c_MD_number 75 = .ok (.goto (-68), 3) := by decide +kernel
theorem d_MD_number_78 : decode c_MD_number 78 = .ok (.iconst 0, 1) := by decide +kernel
theorem d_MD_number_79 : decode c_MD_number 79 = .ok (.istore_n 1, 1) := by decide +kernel
theorem d_MD_number_80 : decode c_MD_number 80 = .ok (.iload_n 1, 1) := by decide +kernel
theorem d_MD_number_81 : decode c_MD_number 81 = .ok (.bipush 40, 2) := by decide +kernel
theorem d_MD_number_83 : decode c_MD_number 83 = .ok (.if_icmp .ge 16, 3) := by decide +kernel
theorem d_MD_number_86 : decode c_MD_number 86 = .ok (.aload_n 0, 1) := by decide +kernel
theorem d_MD_number_87 : decode c_MD_number 87 = .ok (.getfield 27, 3) := by decide +kernel
theorem d_MD_number_90 : decode c_MD_number 90 = .ok (.iload_n 1, 1) := by decide +kernel
theorem d_MD_number_91 : decode c_MD_number 91 = .ok (.iconst 0, 1) := by decide +kernel
theorem d_MD_number_92 : decode c_MD_number 92 = .ok (.iastore, 1) := by decide +kernel
theorem d_MD_number_93 : decode c_MD_number 93 = .ok (.iinc 1 1, 3) := by decide +kernel
theorem d_MD_number_96 : decode c_MD_number 96 = .ok (.goto (-16), 3) := by decide +kernel
theorem d_MD_number_99 : decode c_MD_number 99 = .ok (.aload_n 0, 1) := by decide +kernel
theorem d_MD_number_100 : decode c_MD_number 100 = .ok (.iconst 0, 1) := by decide +kernel
theorem d_MD_number_101 : decode c_MD_number 101 = .ok (.putfield 92, 3) := by decide +kernel
theorem d_MD_number_104 : decode c_MD_number 104 = .ok (.aload_n 0, 1) := by decide +kernel
theorem d_MD_number_105 : decode c_MD_number 105 = .ok (.iconst 0, 1) := by decide +kernel
theorem d_MD_number_106 : decode c_MD_number 106 = .ok (.putfield 96, 3) := by decide +kernel
theorem d_MD_number_109 : decode c_MD_number 109 = .ok (.return_, 1) := by decide +kernel
