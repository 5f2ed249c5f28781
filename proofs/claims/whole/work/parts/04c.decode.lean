theorem d_LN_symbol_0 : decode c_LN_symbol 0 = .ok (.iload_n 0, 1) := by decide +kernel
theorem d_LN_symbol_1 : decode c_LN_symbol 1 = .ok (.iload_n 1, 1) := by decide +kernel
theorem d_LN_symbol_2 : decode c_LN_symbol 2 = .ok (.iushr, 1) := by decide +kernel
theorem d_LN_symbol_3 : decode c_LN_symbol 3 = .ok (.iconst 3, 1) := by decide +kernel
theorem d_LN_symbol_4 : decode c_LN_symbol 4 = .ok (.iand, 1) := by decide +kernel
theorem d_LN_symbol_5 : decode c_LN_symbol 5 = .ok (.ireturn, 1) := by decide +kernel
theorem d_LN_withMate_0 : decode c_LN_withMate 0 = .ok (.iload_n 0, 1) := by decide +kernel
theorem d_LN_withMate_1 : decode c_LN_withMate 1 = .ok (.iload_n 2, 1) := by decide +kernel
theorem d_LN_withMate_2 : decode c_LN_withMate 2 = .ok (.invokestatic 29, 3) := by decide +kernel
theorem d_LN_withMate_5 : decode c_LN_withMate 5 = .ok (.istore 4, 2) := by decide +kernel
theorem d_LN_withMate_7 : decode c_LN_withMate 7 = .ok (.iload 4, 2) := by decide +kernel
theorem d_LN_withMate_9 : decode c_LN_withMate 9 = .ok (.iconst 1, 1) := by decide +kernel
theorem d_LN_withMate_10 : decode c_LN_withMate 10 = .ok (.if_icmp .ne 7, 3) := by decide +kernel
theorem d_LN_withMate_13 : decode c_LN_withMate 13 = .ok (.iconst 2, 1) := by decide +kernel
theorem d_LN_withMate_14 : decode c_LN_withMate 14 = .ok (.goto 5, 3) := by decide +kernel
theorem d_LN_withMate_17 : decode c_LN_withMate 17 = .ok (.bipush (-2), 2) := by decide +kernel
theorem d_LN_withMate_19 : decode c_LN_withMate 19 = .ok (.istore 5, 2) := by decide +kernel
theorem d_LN_withMate_21 : decode c_LN_withMate 21 = .ok (.iconst 0, 1) := by decide +kernel
theorem d_LN_withMate_22 : decode c_LN_withMate 22 = .ok (.istore 6, 2) := by decide +kernel
theorem d_LN_withMate_24 : decode c_LN_withMate 24 = .ok (.iload_n 2, 1) := by decide +kernel
theorem d_LN_withMate_25 : decode c_LN_withMate 25 = .ok (.istore 7, 2) := by decide +kernel
theorem d_LN_withMate_27 : decode c_LN_withMate 27 = .ok (.iload 7, 2) := by decide +kernel
theorem d_LN_withMate_29 : decode c_LN_withMate 29 = .ok (.ifCond .lt 72, 3) := by decide +kernel
theorem d_LN_withMate_32 : decode c_LN_withMate 32 = .ok (.iload 7, 2) := by decide +kernel
theorem d_LN_withMate_34 : decode c_LN_withMate 34 = .ok (.bipush 10, 2) := by decide +kernel
theorem d_LN_withMate_36 : decode c_LN_withMate 36 = .ok (.if_icmp .gt 65, 3) := by decide +kernel
theorem d_LN_withMate_39 : decode c_LN_withMate 39 = .ok (.iload_n 0, 1) := by decide +kernel
theorem d_LN_withMate_40 : decode c_LN_withMate 40 = .ok (.iload 7, 2) := by decide +kernel
theorem d_LN_withMate_42 : decode c_LN_withMate 42 = .ok (.invokestatic 29, 3) := by decide +kernel
theorem d_LN_withMate_45 : decode c_LN_withMate 45 = .ok (.istore 8, 2) := by decide +kernel
theorem d_LN_withMate_47 : decode c_LN_withMate 47 = .ok (.iload 8, 2) := by decide +kernel
theorem d_LN_withMate_49 : decode c_LN_withMate 49 = .ok (.iload 4, 2) := by decide +kernel
theorem d_LN_withMate_51 : decode c_LN_withMate 51 = .ok (.if_icmp .ne 9, 3) := by decide +kernel
theorem d_LN_withMate_54 : decode c_LN_withMate 54 = .ok (.iinc 6 1, 3) := by decide +kernel
theorem d_LN_withMate_57 : decode c_LN_withMate 57 = .ok (.goto 15, 3) := by decide +kernel
theorem d_LN_withMate_60 : decode c_LN_withMate 60 = .ok (.iload 8, 2) := by decide +kernel
theorem d_LN_withMate_62 : decode c_LN_withMate 62 = .ok (.iload 4, 2) := by decide +kernel
theorem d_LN_withMate_64 : decode c_LN_withMate 64 = .ok (.iadd, 1) := by decide +kernel
theorem d_LN_withMate_65 : decode c_LN_withMate 65 = .ok (.iconst 3, 1) := by decide +kernel
theorem d_LN_withMate_66 : decode c_LN_withMate 66 = .ok (.if_icmp .ne 6, 3) := by decide +kernel
theorem d_LN_withMate_69 : decode c_LN_withMate 69 = .ok (.iinc 6 (-1), 3) := by decide +kernel
theorem d_LN_withMate_72 : decode c_LN_withMate 72 = .ok (.iload 6, 2) := by decide +kernel
theorem d_LN_withMate_74 : decode c_LN_withMate 74 = .ok (.ifCond .ne 17, 3) := by decide +kernel
theorem d_LN_withMate_77 : decode c_LN_withMate 77 = .ok (.iload_n 1, 1) := by decide +kernel
theorem d_LN_withMate_78 : decode c_LN_withMate 78 = .ok (.iconst 3, 1) := by decide +kernel
theorem d_LN_withMate_79 : decode c_LN_withMate 79 = .ok (.iload 7, 2) := by decide +kernel
theorem d_LN_withMate_81 : decode c_LN_withMate 81 = .ok (.ishl, 1) := by decide +kernel
theorem d_LN_withMate_82 : decode c_LN_withMate 82 = .ok (.iconst (-1), 1) := by decide +kernel
theorem d_LN_withMate_83 : decode c_LN_withMate 83 = .ok (.ixor, 1) := by decide +kernel
theorem d_LN_withMate_84 : decode c_LN_withMate 84 = .ok (.iand, 1) := by decide +kernel
theorem d_LN_withMate_85 : decode c_LN_withMate 85 = .ok (.iload_n 3, 1) := by decide +kernel
theorem d_LN_withMate_86 : decode c_LN_withMate 86 = .ok (.iload 7, 2) := by decide +kernel
theorem d_LN_withMate_88 : decode c_LN_withMate 88 = .ok (.ishl, 1) := by decide +kernel
theorem d_LN_withMate_89 : decode c_LN_withMate 89 = .ok (.ior, 1) := by decide +kernel
theorem d_LN_withMate_90 : decode c_LN_withMate 90 = .ok (.ireturn, 1) := by decide +kernel
theorem d_LN_withMate_91 : decode c_LN_withMate 91 = .ok (.iload 7, 2) := by decide +kernel
theorem d_LN_withMate_93 : decode c_LN_withMate 93 = .ok (.iload 5, 2) := by decide +kernel
theorem d_LN_withMate_95 : decode c_LN_withMate 95 = .ok (.iadd, 1) := by decide +kernel
theorem d_LN_withMate_96 : decode c_LN_withMate 96 = .ok (.istore 7, 2) := by decide +kernel
theorem d_LN_withMate_98 : decode c_LN_withMate 98 = .ok (.goto (-71), 3) := by decide +kernel
theorem d_LN_withMate_101 : decode c_LN_withMate 101 = .ok (.iconst (-1), 1) := by decide +kernel
theorem d_LN_withMate_102 : decode c_LN_withMate 102 = .ok (.ireturn, 1) := by decide +kernel
theorem d_TR_init_0 : decode c_TR_init 0 = .ok (.aload_n 0, 1) := by decide +kernel
theorem d_TR_init_1 : decode c_TR_init 1 = .ok (.invokespecial 3, 3) := by decide +kernel
theorem d_TR_init_4 : decode c_TR_init 4 = .ok (.aload_n 0, 1) := by decide +kernel
theorem d_TR_init_5 : decode c_TR_init 5 = .ok (.aload_n 1, 1) := by decide +kernel
theorem d_TR_init_6 : decode c_TR_init 6 = .ok (.putfield 9, 3) := by decide +kernel
theorem d_TR_init_9 : decode c_TR_init 9 = .ok (.aload_n 0, 1) := by decide +kernel
theorem d_TR_init_10 : decode c_TR_init 10 = .ok (.aload_n 1, 1) := by decide +kernel
theorem d_TR_init_11 : decode c_TR_init 11 = .ok (.getfield 15, 3) := by decide +kernel
theorem d_TR_init_14 : decode c_TR_init 14 = .ok (.newarray .int, 2) := by decide +kernel
theorem d_TR_init_16 : decode c_TR_init 16 = .ok (.putfield 21, 3) := by decide +kernel
theorem d_TR_init_19 : decode c_TR_init 19 = .ok (.return_, 1) := by decide +kernel
theorem d_TR_firstCode_0 : decode c_TR_firstCode 0 = .ok (.iconst 0, 1) := by decide +kernel
theorem d_TR_firstCode_1 : decode c_TR_firstCode 1 = .ok (.istore_n 1, 1) := by decide +kernel
theorem d_TR_firstCode_2 : decode c_TR_firstCode 2 = .ok (.iload_n 1, 1) := by decide +kernel
theorem d_TR_firstCode_3 : decode c_TR_firstCode 3 = .ok (.aload_n 0, 1) := by decide +kernel
theorem d_TR_firstCode_4 : decode c_TR_firstCode 4 = .ok (.getfield 21, 3) := by decide +kernel
theorem d_TR_firstCode_7 : decode c_TR_firstCode 7 = .ok (.arraylength, 1) := by decide +kernel
theorem d_TR_firstCode_8 : decode c_TR_firstCode 8 = .ok (.if_icmp .ge 33, 3) := by decide +kernel
theorem d_TR_firstCode_11 : decode c_TR_firstCode 11 = .ok (.aload_n 0, 1) := by decide +kernel
theorem d_TR_firstCode_12 : decode c_TR_firstCode 12 = .ok (.getfield 21, 3) := by decide +kernel
theorem d_TR_firstCode_15 : decode c_TR_firstCode 15 = .ok (.iload_n 1, 1) := by decide +kernel
theorem d_TR_firstCode_16 : decode c_TR_firstCode 16 = .ok (.aload_n 0, 1) := by decide +kernel
theorem d_TR_firstCode_17 : decode c_TR_firstCode 17 = .ok (.getfield 9, 3) := by decide +kernel
theorem d_TR_firstCode_20 : decode c_TR_firstCode 20 = .ok (.iload_n 1, 1) := by decide +kernel
theorem d_TR_firstCode_21 : decode c_TR_firstCode 21 = .ok (.invokevirtual 25, 3) := by decide +kernel
theorem d_TR_firstCode_24 : decode c_TR_firstCode 24 = .ok (.ifCond .eq 9, 3) := by decide +kernel
theorem d_TR_firstCode_27 : decode c_TR_firstCode 27 = .ok (.iload_n 1, 1) := by decide +kernel
theorem d_TR_firstCode_28 : decode c_TR_firstCode 28 = .ok (.iconst 1, 1) := by decide +kernel
theorem d_TR_firstCode_29 : decode c_TR_firstCode 29 = .ok (.iadd, 1) := by decide +kernel
theorem d_TR_firstCode_30 : decode c_TR_firstCode 30 = .ok (.goto 4, 3) := by decide +kernel
theorem d_TR_firstCode_33 : decode c_TR_firstCode 33 = .ok (.iconst 0, 1) := by decide +kernel
theorem d_TR_firstCode_34 : decode c_TR_firstCode 34 = .ok (.iastore, 1) := by decide +kernel
theorem d_TR_firstCode_35 : decode c_TR_firstCode 35 = .ok (.iinc 1 1, 3) := by decide +kernel
theorem d_TR_firstCode_38 : decode c_TR_firstCode 38 = .ok (.goto (-36), 3) := by decide +kernel
theorem d_TR_firstCode_41 : decode c_TR_firstCode 41 = .ok (.aload_n 0, 1) := by decide +kernel
theorem d_TR_firstCode_42 : decode c_TR_firstCode 42 = .ok (.invokevirtual 29, 3) := by decide +kernel
theorem d_TR_firstCode_45 : decode c_TR_firstCode 45 = .ok (.ireturn, 1) := by decide +kernel
theorem d_TR_isWay_0 : decode c_TR_isWay 0 = .ok (.iload_n 1, 1) := by decide +kernel
theorem d_TR_isWay_1 : decode c_TR_isWay 1 = .ok (.ifCond .ne 7, 3) := by decide +kernel
theorem d_TR_isWay_4 : decode c_TR_isWay 4 = .ok (.iconst 1, 1) := by decide +kernel
theorem d_TR_isWay_5 : decode c_TR_isWay 5 = .ok (.goto 4, 3) := by decide +kernel
theorem d_TR_isWay_8 : decode c_TR_isWay 8 = .ok (.iconst 0, 1) := by decide +kernel
theorem d_TR_isWay_9 : decode c_TR_isWay 9 = .ok (.ireturn, 1) := by decide +kernel
theorem d_TR_codeAfter_0 : decode c_TR_codeAfter 0 = .ok (.iload_n 3, 1) := by decide +kernel
theorem d_TR_codeAfter_1 : decode c_TR_codeAfter 1 = .ok (.ifCond .lt 12, 3) := by decide +kernel
theorem d_TR_codeAfter_4 : decode c_TR_codeAfter 4 = .ok (.iload_n 3, 1) := by decide +kernel
theorem d_TR_codeAfter_5 : decode c_TR_codeAfter 5 = .ok (.aload_n 0, 1) := by decide +kernel
theorem d_TR_codeAfter_6 : decode c_TR_codeAfter 6 = .ok (.getfield 21, 3) := by decide +kernel
theorem d_TR_codeAfter_9 : decode c_TR_codeAfter 9 = .ok (.arraylength, 1) := by decide +kernel
theorem d_TR_codeAfter_10 : decode c_TR_codeAfter 10 = .ok (.if_icmp .lt 5, 3) := by decide +kernel
theorem d_TR_codeAfter_13 : decode c_TR_codeAfter 13 = .ok (.iconst (-1), 1) := by decide +kernel
theorem d_TR_codeAfter_14 : decode c_TR_codeAfter 14 = .ok (.ireturn, 1) := by decide +kernel
theorem d_TR_codeAfter_15 : decode c_TR_codeAfter 15 = .ok (.iconst 0, 1) := by decide +kernel
theorem d_TR_codeAfter_16 : decode c_TR_codeAfter 16 = .ok (.istore 5, 2) := by decide +kernel
theorem d_TR_codeAfter_18 : decode c_TR_codeAfter 18 = .ok (.iload 5, 2) := by decide +kernel
theorem d_TR_codeAfter_20 : decode c_TR_codeAfter 20 = .ok (.aload_n 0, 1) := by decide +kernel
theorem d_TR_codeAfter_21 : decode c_TR_codeAfter 21 = .ok (.getfield 21, 3) := by decide +kernel
theorem d_TR_codeAfter_24 : decode c_TR_codeAfter 24 = .ok (.arraylength, 1) := by decide +kernel
theorem d_TR_codeAfter_25 : decode c_TR_codeAfter 25 = .ok (.if_icmp .ge 25, 3) := by decide +kernel
theorem d_TR_codeAfter_28 : decode c_TR_codeAfter 28 = .ok (.aload_n 0, 1) := by decide +kernel
theorem d_TR_codeAfter_29 : decode c_TR_codeAfter 29 = .ok (.getfield 21, 3) := by decide +kernel
theorem d_TR_codeAfter_32 : decode c_TR_codeAfter 32 = .ok (.iload 5, 2) := by decide +kernel
theorem d_TR_codeAfter_34 : decode c_TR_codeAfter 34 = .ok (.iload_n 1, 1) := by decide +kernel
theorem d_TR_codeAfter_35 : decode c_TR_codeAfter 35 = .ok (.iconst 3, 1) := by decide +kernel
theorem d_TR_codeAfter_36 : decode c_TR_codeAfter 36 = .ok (.iload 5, 2) := by decide +kernel
theorem d_TR_codeAfter_38 : decode c_TR_codeAfter 38 = .ok (.imul, 1) := by decide +kernel
theorem d_TR_codeAfter_39 : decode c_TR_codeAfter 39 = .ok (.iushr, 1) := by decide +kernel
theorem d_TR_codeAfter_40 : decode c_TR_codeAfter 40 = .ok (.bipush 7, 2) := by decide +kernel
theorem d_TR_codeAfter_42 : decode c_TR_codeAfter 42 = .ok (.iand, 1) := by decide +kernel
theorem d_TR_codeAfter_43 : decode c_TR_codeAfter 43 = .ok (.iastore, 1) := by decide +kernel
theorem d_TR_codeAfter_44 : decode c_TR_codeAfter 44 = .ok (.iinc 5 1, 3) := by decide +kernel
theorem d_TR_codeAfter_47 : decode c_TR_codeAfter 47 = .ok (.goto (-29), 3) := by decide +kernel
theorem d_TR_codeAfter_50 : decode c_TR_codeAfter 50 = .ok (.aload_n 0, 1) := by decide +kernel
theorem d_TR_codeAfter_51 : decode c_TR_codeAfter 51 = .ok (.getfield 21, 3) := by decide +kernel
theorem d_TR_codeAfter_54 : decode c_TR_codeAfter 54 = .ok (.iload_n 3, 1) := by decide +kernel
theorem d_TR_codeAfter_55 : decode c_TR_codeAfter 55 = .ok (.iaload, 1) := by decide +kernel
theorem d_TR_codeAfter_56 : decode c_TR_codeAfter 56 = .ok (.istore 5, 2) := by decide +kernel
theorem d_TR_codeAfter_58 : decode c_TR_codeAfter 58 = .ok (.iload 4, 2) := by decide +kernel
theorem d_TR_codeAfter_60 : decode c_TR_codeAfter 60 = .ok (.iconst 2, 1) := by decide +kernel
theorem d_TR_codeAfter_61 : decode c_TR_codeAfter 61 = .ok (.iand, 1) := by decide +kernel
theorem d_TR_codeAfter_62 : decode c_TR_codeAfter 62 = .ok (.ifCond .eq 13, 3) := by decide +kernel
theorem d_TR_codeAfter_65 : decode c_TR_codeAfter 65 = .ok (.aload_n 0, 1) := by decide +kernel
theorem d_TR_codeAfter_66 : decode c_TR_codeAfter 66 = .ok (.iload_n 3, 1) := by decide +kernel
theorem d_TR_codeAfter_67 : decode c_TR_codeAfter 67 = .ok (.invokevirtual 33, 3) := by decide +kernel
theorem d_TR_codeAfter_70 : decode c_TR_codeAfter 70 = .ok (.ifCond .ne 5, 3) := by decide +kernel
theorem d_TR_codeAfter_73 : decode c_TR_codeAfter 73 = .ok (.iconst (-1), 1) := by decide +kernel
theorem d_TR_codeAfter_74 : decode c_TR_codeAfter 74 = .ok (.ireturn, 1) := by decide +kernel
theorem d_TR_codeAfter_75 : decode c_TR_codeAfter 75 = .ok (.iload 4, 2) := by decide +kernel
theorem d_TR_codeAfter_77 : decode c_TR_codeAfter 77 = .ok (.iconst 1, 1) := by decide +kernel
theorem d_TR_codeAfter_78 : decode c_TR_codeAfter 78 = .ok (.iand, 1) := by decide +kernel
theorem d_TR_codeAfter_79 : decode c_TR_codeAfter 79 = .ok (.ifCond .eq 8, 3) := by decide +kernel
theorem d_TR_codeAfter_82 : decode c_TR_codeAfter 82 = .ok (.iload 5, 2) := by decide +kernel
theorem d_TR_codeAfter_84 : decode c_TR_codeAfter 84 = .ok (.goto 5, 3) := by decide +kernel
theorem d_TR_codeAfter_87 : decode c_TR_codeAfter 87 = .ok (.bipush 6, 2) := by decide +kernel
theorem d_TR_codeAfter_89 : decode c_TR_codeAfter 89 = .ok (.istore 6, 2) := by decide +kernel
theorem d_TR_codeAfter_91 : decode c_TR_codeAfter 91 = .ok (.aload_n 0, 1) := by decide +kernel
theorem d_TR_codeAfter_92 : decode c_TR_codeAfter 92 = .ok (.getfield 21, 3) := by decide +kernel
theorem d_TR_codeAfter_95 : decode c_TR_codeAfter 95 = .ok (.iload_n 3, 1) := by decide +kernel
theorem d_TR_codeAfter_96 : decode c_TR_codeAfter 96 = .ok (.aload_n 0, 1) := by decide +kernel
theorem d_TR_codeAfter_97 : decode c_TR_codeAfter 97 = .ok (.getfield 9, 3) := by decide +kernel
theorem d_TR_codeAfter_100 : decode c_TR_codeAfter 100 = .ok (.iload_n 2, 1) := by decide +kernel
theorem d_TR_codeAfter_101 : decode c_TR_codeAfter 101 = .ok (.aload_n 0, 1) := by decide +kernel
theorem d_TR_codeAfter_102 : decode c_TR_codeAfter 102 = .ok (.getfield 9, 3) := by decide +kernel
theorem d_TR_codeAfter_105 : decode c_TR_codeAfter 105 = .ok (.getfield 15, 3) := by decide +kernel
theorem d_TR_codeAfter_108 : decode c_TR_codeAfter 108 = .ok (.iadd, 1) := by decide +kernel
theorem d_TR_codeAfter_109 : decode c_TR_codeAfter 109 = .ok (.invokevirtual 25, 3) := by decide +kernel
theorem d_TR_codeAfter_112 : decode c_TR_codeAfter 112 = .ok (.ifCond .eq 8, 3) := by decide +kernel
theorem d_TR_codeAfter_115 : decode c_TR_codeAfter 115 = .ok (.iload 6, 2) := by decide +kernel
theorem d_TR_codeAfter_117 : decode c_TR_codeAfter 117 = .ok (.goto 4, 3) := by decide +kernel
theorem d_TR_codeAfter_120 : decode c_TR_codeAfter 120 = .ok (.iconst 0, 1) := by decide +kernel
theorem d_TR_codeAfter_121 : decode c_TR_codeAfter 121 = .ok (.iastore, 1) := by decide +kernel
theorem d_TR_codeAfter_122 : decode c_TR_codeAfter 122 = .ok (.iload 5, 2) := by decide +kernel
theorem d_TR_codeAfter_124 : decode c_TR_codeAfter 124 = .ok (.ifCond .eq 16, 3) := by decide +kernel
theorem d_TR_codeAfter_127 : decode c_TR_codeAfter 127 = .ok (.aload_n 0, 1) := by decide +kernel
theorem d_TR_codeAfter_128 : decode c_TR_codeAfter 128 = .ok (.iload 5, 2) := by decide +kernel
theorem d_TR_codeAfter_130 : decode c_TR_codeAfter 130 = .ok (.invokevirtual 36, 3) := by decide +kernel
theorem d_TR_codeAfter_133 : decode c_TR_codeAfter 133 = .ok (.ifCond .ne 7, 3) := by decide +kernel
theorem d_TR_codeAfter_136 : decode c_TR_codeAfter 136 = .ok (.iconst 1, 1) := by decide +kernel
theorem d_TR_codeAfter_137 : decode c_TR_codeAfter 137 = .ok (.goto 4, 3) := by decide +kernel
theorem d_TR_codeAfter_140 : decode c_TR_codeAfter 140 = .ok (.iconst 0, 1) := by decide +kernel
theorem d_TR_codeAfter_141 : decode c_TR_codeAfter 141 = .ok (.istore 7, 2) := by decide +kernel
theorem d_TR_codeAfter_143 : decode c_TR_codeAfter 143 = .ok (.iload 7, 2) := by decide +kernel
theorem d_TR_codeAfter_145 : decode c_TR_codeAfter 145 = .ok (.ifCond .eq 18, 3) := by decide +kernel
theorem d_TR_codeAfter_148 : decode c_TR_codeAfter 148 = .ok (.iload_n 2, 1) := by decide +kernel
theorem d_TR_codeAfter_149 : decode c_TR_codeAfter 149 = .ok (.aload_n 0, 1) := by decide +kernel
theorem d_TR_codeAfter_150 : decode c_TR_codeAfter 150 = .ok (.getfield 9, 3) := by decide +kernel
theorem d_TR_codeAfter_153 : decode c_TR_codeAfter 153 = .ok (.getfield 39, 3) := by decide +kernel
theorem d_TR_codeAfter_156 : decode c_TR_codeAfter 156 = .ok (.if_icmp .eq 7, 3) := by decide +kernel
theorem d_TR_codeAfter_159 : decode c_TR_codeAfter 159 = .ok (.iconst (-1), 1) := by decide +kernel
theorem d_TR_codeAfter_160 : decode c_TR_codeAfter 160 = .ok (.goto 7, 3) := by decide +kernel
theorem d_TR_codeAfter_163 : decode c_TR_codeAfter 163 = .ok (.aload_n 0, 1) := by decide +kernel
theorem d_TR_codeAfter_164 : decode c_TR_codeAfter 164 = .ok (.invokevirtual 29, 3) := by decide +kernel
theorem d_TR_codeAfter_167 : decode c_TR_codeAfter 167 = .ok (.ireturn, 1) := by decide +kernel
theorem d_TR_joinRight_0 : decode c_TR_joinRight 0 = .ok (.iload_n 1, 1) := by decide +kernel
theorem d_TR_joinRight_1 : decode c_TR_joinRight 1 = .ok (.iconst 1, 1) := by decide +kernel
theorem d_TR_joinRight_2 : decode c_TR_joinRight 2 = .ok (.iadd, 1) := by decide +kernel
theorem d_TR_joinRight_3 : decode c_TR_joinRight 3 = .ok (.aload_n 0, 1) := by decide +kernel
theorem d_TR_joinRight_4 : decode c_TR_joinRight 4 = .ok (.getfield 21, 3) := by decide +kernel
theorem d_TR_joinRight_7 : decode c_TR_joinRight 7 = .ok (.arraylength, 1) := by decide +kernel
theorem d_TR_joinRight_8 : decode c_TR_joinRight 8 = .ok (.if_icmp .ge 20, 3) := by decide +kernel
theorem d_TR_joinRight_11 : decode c_TR_joinRight 11 = .ok (.aload_n 0, 1) := by decide +kernel
theorem d_TR_joinRight_12 : decode c_TR_joinRight 12 = .ok (.getfield 21, 3) := by decide +kernel
theorem d_TR_joinRight_15 : decode c_TR_joinRight 15 = .ok (.iload_n 1, 1) := by decide +kernel
theorem d_TR_joinRight_16 : decode c_TR_joinRight 16 = .ok (.iaload, 1) := by decide +kernel
theorem d_TR_joinRight_17 : decode c_TR_joinRight 17 = .ok (.aload_n 0, 1) := by decide +kernel
theorem d_TR_joinRight_18 : decode c_TR_joinRight 18 = .ok (.getfield 21, 3) := by decide +kernel
theorem d_TR_joinRight_21 : decode c_TR_joinRight 21 = .ok (.iload_n 1, 1) := by decide +kernel
theorem d_TR_joinRight_22 : decode c_TR_joinRight 22 = .ok (.iconst 1, 1) := by decide +kernel
theorem d_TR_joinRight_23 : decode c_TR_joinRight 23 = .ok (.iadd, 1) := by decide +kernel
theorem d_TR_joinRight_24 : decode c_TR_joinRight 24 = .ok (.iaload, 1) := by decide +kernel
theorem d_TR_joinRight_25 : decode c_TR_joinRight 25 = .ok (.if_icmp .ne 5, 3) := by decide +kernel
theorem d_TR_joinRight_28 : decode c_TR_joinRight 28 = .ok (.iconst 0, 1) := by decide +kernel
theorem d_TR_joinRight_29 : decode c_TR_joinRight 29 = .ok (.ireturn, 1) := by decide +kernel
theorem d_TR_joinRight_30 : decode c_TR_joinRight 30 = .ok (.aload_n 0, 1) := by decide +kernel
theorem d_TR_joinRight_31 : decode c_TR_joinRight 31 = .ok (.getfield 21, 3) := by decide +kernel
theorem d_TR_joinRight_34 : decode c_TR_joinRight 34 = .ok (.iload_n 1, 1) := by decide +kernel
theorem d_TR_joinRight_35 : decode c_TR_joinRight 35 = .ok (.iaload, 1) := by decide +kernel
theorem d_TR_joinRight_36 : decode c_TR_joinRight 36 = .ok (.istore_n 2, 1) := by decide +kernel
theorem d_TR_joinRight_37 : decode c_TR_joinRight 37 = .ok (.aload_n 0, 1) := by decide +kernel
theorem d_TR_joinRight_38 : decode c_TR_joinRight 38 = .ok (.getfield 21, 3) := by decide +kernel
theorem d_TR_joinRight_41 : decode c_TR_joinRight 41 = .ok (.iload_n 1, 1) := by decide +kernel
theorem d_TR_joinRight_42 : decode c_TR_joinRight 42 = .ok (.iconst 1, 1) := by decide +kernel
theorem d_TR_joinRight_43 : decode c_TR_joinRight 43 = .ok (.iadd, 1) := by decide +kernel
theorem d_TR_joinRight_44 : decode c_TR_joinRight 44 = .ok (.iaload, 1) := by decide +kernel
theorem d_TR_joinRight_45 : decode c_TR_joinRight 45 = .ok (.istore_n 3, 1) := by decide +kernel
theorem d_TR_joinRight_46 : decode c_TR_joinRight 46 = .ok (.iconst 0, 1) := by decide +kernel
theorem d_TR_joinRight_47 : decode c_TR_joinRight 47 = .ok (.istore 4, 2) := by decide +kernel
theorem d_TR_joinRight_49 : decode c_TR_joinRight 49 = .ok (.iload 4, 2) := by decide +kernel
theorem d_TR_joinRight_51 : decode c_TR_joinRight 51 = .ok (.aload_n 0, 1) := by decide +kernel
theorem d_TR_joinRight_52 : decode c_TR_joinRight 52 = .ok (.getfield 21, 3) := by decide +kernel
theorem d_TR_joinRight_55 : decode c_TR_joinRight 55 = .ok (.arraylength, 1) := by decide +kernel
theorem d_TR_joinRight_56 : decode c_TR_joinRight 56 = .ok (.if_icmp .ge 28, 3) := by decide +kernel
theorem d_TR_joinRight_59 : decode c_TR_joinRight 59 = .ok (.aload_n 0, 1) := by decide +kernel
theorem d_TR_joinRight_60 : decode c_TR_joinRight 60 = .ok (.getfield 21, 3) := by decide +kernel
theorem d_TR_joinRight_63 : decode c_TR_joinRight 63 = .ok (.iload 4, 2) := by decide +kernel
theorem d_TR_joinRight_65 : decode c_TR_joinRight 65 = .ok (.iaload, 1) := by decide +kernel
theorem d_TR_joinRight_66 : decode c_TR_joinRight 66 = .ok (.iload_n 3, 1) := by decide +kernel
theorem d_TR_joinRight_67 : decode c_TR_joinRight 67 = .ok (.if_icmp .ne 11, 3) := by decide +kernel
theorem d_TR_joinRight_70 : decode c_TR_joinRight 70 = .ok (.aload_n 0, 1) := by decide +kernel
theorem d_TR_joinRight_71 : decode c_TR_joinRight 71 = .ok (.getfield 21, 3) := by decide +kernel
theorem d_TR_joinRight_74 : decode c_TR_joinRight 74 = .ok (.iload 4, 2) := by decide +kernel
theorem d_TR_joinRight_76 : decode c_TR_joinRight 76 = .ok (.iload_n 2, 1) := by decide +kernel
theorem d_TR_joinRight_77 : decode c_TR_joinRight 77 = .ok (.iastore, 1) := by decide +kernel
theorem d_TR_joinRight_78 : decode c_TR_joinRight 78 = .ok (.iinc 4 1, 3) := by decide +kernel
theorem d_TR_joinRight_81 : decode c_TR_joinRight 81 = .ok (.goto (-32), 3) := by decide +kernel
theorem d_TR_joinRight_84 : decode c_TR_joinRight 84 = .ok (.iconst 1, 1) := by decide +kernel
theorem d_TR_joinRight_85 : decode c_TR_joinRight 85 = .ok (.ireturn, 1) := by decide +kernel
theorem d_TR_isThere_0 : decode c_TR_isThere 0 = .ok (.iconst 0, 1) := by decide +kernel
theorem d_TR_isThere_1 : decode c_TR_isThere 1 = .ok (.istore_n 2, 1) := by decide +kernel
theorem d_TR_isThere_2 : decode c_TR_isThere 2 = .ok (.iload_n 2, 1) := by decide +kernel
theorem d_TR_isThere_3 : decode c_TR_isThere 3 = .ok (.aload_n 0, 1) := by decide +kernel
theorem d_TR_isThere_4 : decode c_TR_isThere 4 = .ok (.getfield 21, 3) := by decide +kernel
theorem d_TR_isThere_7 : decode c_TR_isThere 7 = .ok (.arraylength, 1) := by decide +kernel
theorem d_TR_isThere_8 : decode c_TR_isThere 8 = .ok (.if_icmp .ge 21, 3) := by decide +kernel
theorem d_TR_isThere_11 : decode c_TR_isThere 11 = .ok (.aload_n 0, 1) := by decide +kernel
theorem d_TR_isThere_12 : decode c_TR_isThere 12 = .ok (.getfield 21, 3) := by decide +kernel
theorem d_TR_isThere_15 : decode c_TR_isThere 15 = .ok (.iload_n 2, 1) := by decide +kernel
theorem d_TR_isThere_16 : decode c_TR_isThere 16 = .ok (.iaload, 1) := by decide +kernel
theorem d_TR_isThere_17 : decode c_TR_isThere 17 = .ok (.iload_n 1, 1) := by decide +kernel
theorem d_TR_isThere_18 : decode c_TR_isThere 18 = .ok (.if_icmp .ne 5, 3) := by decide +kernel
theorem d_TR_isThere_21 : decode c_TR_isThere 21 = .ok (.iconst 1, 1) := by decide +kernel
theorem d_TR_isThere_22 : decode c_TR_isThere 22 = .ok (.ireturn, 1) := by decide +kernel
theorem d_TR_isThere_23 : decode c_TR_isThere 23 = .ok (.iinc 2 1, 3) := by decide +kernel
theorem d_TR_isThere_26 : decode c_TR_isThere 26 = .ok (.goto (-24), 3) := by decide +kernel
theorem d_TR_isThere_29 : decode c_TR_isThere 29 = .ok (.iconst 0, 1) := by decide +kernel
theorem d_TR_isThere_30 : decode c_TR_isThere 30 = .ok (.ireturn, 1) := by decide +kernel
theorem d_TR_codeOfPieces_0 : decode c_TR_codeOfPieces 0 = .ok (.iconst 0, 1) := by decide +kernel
theorem d_TR_codeOfPieces_1 : decode c_TR_codeOfPieces 1 = .ok (.istore_n 1, 1) := by decide +kernel
theorem d_TR_codeOfPieces_2 : decode c_TR_codeOfPieces 2 = .ok (.iconst 0, 1) := by decide +kernel
theorem d_TR_codeOfPieces_3 : decode c_TR_codeOfPieces 3 = .ok (.istore_n 2, 1) := by decide +kernel
theorem d_TR_codeOfPieces_4 : decode c_TR_codeOfPieces 4 = .ok (.iconst 0, 1) := by decide +kernel
theorem d_TR_codeOfPieces_5 : decode c_TR_codeOfPieces 5 = .ok (.istore_n 3, 1) := by decide +kernel
theorem d_TR_codeOfPieces_6 : decode c_TR_codeOfPieces 6 = .ok (.iconst 0, 1) := by decide +kernel
theorem d_TR_codeOfPieces_7 : decode c_TR_codeOfPieces 7 = .ok (.istore 4, 2) := by decide +kernel
theorem d_TR_codeOfPieces_9 : decode c_TR_codeOfPieces 9 = .ok (.iload 4, 2) := by decide +kernel
theorem d_TR_codeOfPieces_11 : decode c_TR_codeOfPieces 11 = .ok (.aload_n 0, 1) := by decide +kernel
theorem d_TR_codeOfPieces_12 : decode c_TR_codeOfPieces 12 = .ok (.getfield 21, 3) := by decide +kernel
theorem d_TR_codeOfPieces_15 : decode c_TR_codeOfPieces 15 = .ok (.arraylength, 1) := by decide +kernel
theorem d_TR_codeOfPieces_16 : decode c_TR_codeOfPieces 16 = .ok (.if_icmp .ge 64, 3) := by decide +kernel
theorem d_TR_codeOfPieces_19 : decode c_TR_codeOfPieces 19 = .ok (.aload_n 0, 1) := by decide +kernel
theorem d_TR_codeOfPieces_20 : decode c_TR_codeOfPieces 20 = .ok (.getfield 21, 3) := by decide +kernel
theorem d_TR_codeOfPieces_23 : decode c_TR_codeOfPieces 23 = .ok (.iload 4, 2) := by decide +kernel
theorem d_TR_codeOfPieces_25 : decode c_TR_codeOfPieces 25 = .ok (.iaload, 1) := by decide +kernel
theorem d_TR_codeOfPieces_26 : decode c_TR_codeOfPieces 26 = .ok (.istore 5, 2) := by decide +kernel
theorem d_TR_codeOfPieces_28 : decode c_TR_codeOfPieces 28 = .ok (.iload 5, 2) := by decide +kernel
theorem d_TR_codeOfPieces_30 : decode c_TR_codeOfPieces 30 = .ok (.ifCond .eq 27, 3) := by decide +kernel
theorem d_TR_codeOfPieces_33 : decode c_TR_codeOfPieces 33 = .ok (.iload_n 2, 1) := by decide +kernel
theorem d_TR_codeOfPieces_34 : decode c_TR_codeOfPieces 34 = .ok (.iconst 3, 1) := by decide +kernel
theorem d_TR_codeOfPieces_35 : decode c_TR_codeOfPieces 35 = .ok (.iload 5, 2) := by decide +kernel
theorem d_TR_codeOfPieces_37 : decode c_TR_codeOfPieces 37 = .ok (.imul, 1) := by decide +kernel
theorem d_TR_codeOfPieces_38 : decode c_TR_codeOfPieces 38 = .ok (.iushr, 1) := by decide +kernel
theorem d_TR_codeOfPieces_39 : decode c_TR_codeOfPieces 39 = .ok (.bipush 7, 2) := by decide +kernel
theorem d_TR_codeOfPieces_41 : decode c_TR_codeOfPieces 41 = .ok (.iand, 1) := by decide +kernel
theorem d_TR_codeOfPieces_42 : decode c_TR_codeOfPieces 42 = .ok (.ifCond .ne 15, 3) := by decide +kernel
theorem d_TR_codeOfPieces_45 : decode c_TR_codeOfPieces 45 = .ok (.iinc 3 1, 3) := by decide +kernel
theorem d_TR_codeOfPieces_48 : decode c_TR_codeOfPieces 48 = .ok (.iload_n 2, 1) := by decide +kernel
theorem d_TR_codeOfPieces_49 : decode c_TR_codeOfPieces 49 = .ok (.iload_n 3, 1) := by decide +kernel
theorem d_TR_codeOfPieces_50 : decode c_TR_codeOfPieces 50 = .ok (.iconst 3, 1) := by decide +kernel
theorem d_TR_codeOfPieces_51 : decode c_TR_codeOfPieces 51 = .ok (.iload 5, 2) := by decide +kernel
theorem d_TR_codeOfPieces_53 : decode c_TR_codeOfPieces 53 = .ok (.imul, 1) := by decide +kernel
theorem d_TR_codeOfPieces_54 : decode c_TR_codeOfPieces 54 = .ok (.ishl, 1) := by decide +kernel
theorem d_TR_codeOfPieces_55 : decode c_TR_codeOfPieces 55 = .ok (.ior, 1) := by decide +kernel
theorem d_TR_codeOfPieces_56 : decode c_TR_codeOfPieces 56 = .ok (.istore_n 2, 1) := by decide +kernel
theorem d_TR_codeOfPieces_57 : decode c_TR_codeOfPieces 57 = .ok (.iload_n 1, 1) := by decide +kernel
theorem d_TR_codeOfPieces_58 : decode c_TR_codeOfPieces 58 = .ok (.iload_n 2, 1) := by decide +kernel
theorem d_TR_codeOfPieces_59 : decode c_TR_codeOfPieces 59 = .ok (.iconst 3, 1) := by decide +kernel
theorem d_TR_codeOfPieces_60 : decode c_TR_codeOfPieces 60 = .ok (.iload 5, 2) := by decide +kernel
theorem d_TR_codeOfPieces_62 : decode c_TR_codeOfPieces 62 = .ok (.imul, 1) := by decide +kernel
theorem d_TR_codeOfPieces_63 : decode c_TR_codeOfPieces 63 = .ok (.iushr, 1) := by decide +kernel
theorem d_TR_codeOfPieces_64 : decode c_TR_codeOfPieces 64 = .ok (.bipush 7, 2) := by decide +kernel
theorem d_TR_codeOfPieces_66 : decode c_TR_codeOfPieces 66 = .ok (.iand, 1) := by decide +kernel
theorem d_TR_codeOfPieces_67 : decode c_TR_codeOfPieces 67 = .ok (.iconst 3, 1) := by decide +kernel
theorem d_TR_codeOfPieces_68 : decode c_TR_codeOfPieces 68 = .ok (.iload 4, 2) := by decide +kernel
theorem d_TR_codeOfPieces_70 : decode c_TR_codeOfPieces 70 = .ok (.imul, 1) := by decide +kernel
theorem d_TR_codeOfPieces_71 : decode c_TR_codeOfPieces 71 = .ok (.ishl, 1) := by decide +kernel
theorem d_TR_codeOfPieces_72 : decode c_TR_codeOfPieces 72 = .ok (.ior, 1) := by decide +kernel
theorem d_TR_codeOfPieces_73 : decode c_TR_codeOfPieces 73 = .ok (.istore_n 1, 1) := by decide +kernel
theorem d_TR_codeOfPieces_74 : decode c_TR_codeOfPieces 74 = .ok (.iinc 4 1, 3) := by decide +kernel
theorem d_TR_codeOfPieces_77 : decode c_TR_codeOfPieces 77 = .ok (.goto (-68), 3) := by decide +kernel
theorem d_TR_codeOfPieces_80 : decode c_TR_codeOfPieces 80 = .ok (.iload_n 1, 1) := by decide +kernel
theorem d_TR_codeOfPieces_81 : decode c_TR_codeOfPieces 81 = .ok (.ireturn, 1) := by decide +kernel
theorem d_RU_init_0 : decode c_RU_init 0 = .ok (.aload_n 0, 1) := by decide +kernel
theorem d_RU_init_1 : decode c_RU_init 1 = .ok (.invokespecial 1, 3) := by decide +kernel
theorem d_RU_init_4 : decode c_RU_init 4 = .ok (.return_, 1) := by decide +kernel
theorem d_LY_init_0 : decode c_LY_init 0 = .ok (.aload_n 0, 1) := by decide +kernel
theorem d_LY_init_1 : decode c_LY_init 1 = .ok (.invokespecial 1, 3) := by decide +kernel
theorem d_LY_init_4 : decode c_LY_init 4 = .ok (.aload_n 0, 1) := by decide +kernel
theorem d_LY_init_5 : decode c_LY_init 5 = .ok (.aload_n 1, 1) := by decide +kernel
theorem d_LY_init_6 : decode c_LY_init 6 = .ok (.putfield 7, 3) := by decide +kernel
theorem d_LY_init_9 : decode c_LY_init 9 = .ok (.aload_n 0, 1) := by decide +kernel
theorem d_LY_init_10 : decode c_LY_init 10 = .ok (.aload_n 2, 1) := by decide +kernel
theorem d_LY_init_11 : decode c_LY_init 11 = .ok (.putfield 13, 3) := by decide +kernel
theorem d_LY_init_14 : decode c_LY_init 14 = .ok (.aload_n 0, 1) := by decide +kernel
theorem d_LY_init_15 : decode c_LY_init 15 = .ok (.iload_n 3, 1) := by decide +kernel
theorem d_LY_init_16 : decode c_LY_init 16 = .ok (.putfield 17, 3) := by decide +kernel
theorem d_LY_init_19 : decode c_LY_init 19 = .ok (.aload_n 0, 1) := by decide +kernel
theorem d_LY_init_20 : decode c_LY_init 20 = .ok (.aload_n 1, 1) := by decide +kernel
theorem d_LY_init_21 : decode c_LY_init 21 = .ok (.getfield 21, 3) := by decide +kernel
theorem d_LY_init_24 : decode c_LY_init 24 = .ok (.iconst 1, 1) := by decide +kernel
theorem d_LY_init_25 : decode c_LY_init 25 = .ok (.iadd, 1) := by decide +kernel
theorem d_LY_init_26 : decode c_LY_init 26 = .ok (.newarray .int, 2) := by decide +kernel
theorem d_LY_init_28 : decode c_LY_init 28 = .ok (.putfield 26, 3) := by decide +kernel
theorem d_LY_init_31 : decode c_LY_init 31 = .ok (.aload_n 0, 1) := by decide +kernel
theorem d_LY_init_32 : decode c_LY_init 32 = .ok (.aload_n 1, 1) := by decide +kernel
theorem d_LY_init_33 : decode c_LY_init 33 = .ok (.getfield 21, 3) := by decide +kernel
theorem d_LY_init_36 : decode c_LY_init 36 = .ok (.iload_n 3, 1) := by decide +kernel
theorem d_LY_init_37 : decode c_LY_init 37 = .ok (.imul, 1) := by decide +kernel
theorem d_LY_init_38 : decode c_LY_init 38 = .ok (.newarray .int, 2) := by decide +kernel
theorem d_LY_init_40 : decode c_LY_init 40 = .ok (.putfield 30, 3) := by decide +kernel
theorem d_LY_init_43 : decode c_LY_init 43 = .ok (.aload_n 0, 1) := by decide +kernel
theorem d_LY_init_44 : decode c_LY_init 44 = .ok (.aload_n 1, 1) := by decide +kernel
theorem d_LY_init_45 : decode c_LY_init 45 = .ok (.getfield 21, 3) := by decide +kernel
theorem d_LY_init_48 : decode c_LY_init 48 = .ok (.iconst 1, 1) := by decide +kernel
theorem d_LY_init_49 : decode c_LY_init 49 = .ok (.iadd, 1) := by decide +kernel
theorem d_LY_init_50 : decode c_LY_init 50 = .ok (.iload_n 3, 1) := by decide +kernel
theorem d_LY_init_51 : decode c_LY_init 51 = .ok (.imul, 1) := by decide +kernel
theorem d_LY_init_52 : decode c_LY_init 52 = .ok (.newarray .long, 2) := by decide +kernel
theorem d_LY_init_54 : decode c_LY_init 54 = .ok (.putfield 33, 3) := by decide +kernel
theorem d_LY_init_57 : decode c_LY_init 57 = .ok (.aload_n 0, 1) := by decide +kernel
theorem d_LY_init_58 : decode c_LY_init 58 = .ok (.sipush 512, 3) := by decide +kernel
theorem d_LY_init_61 : decode c_LY_init 61 = .ok (.newarray .int, 2) := by decide +kernel
theorem d_LY_init_63 : decode c_LY_init 63 = .ok (.putfield 37, 3) := by decide +kernel
theorem d_LY_init_66 : decode c_LY_init 66 = .ok (.aload_n 0, 1) := by decide +kernel
theorem d_LY_init_67 : decode c_LY_init 67 = .ok (.iload_n 3, 1) := by decide +kernel
theorem d_LY_init_68 : decode c_LY_init 68 = .ok (.newarray .int, 2) := by decide +kernel
theorem d_LY_init_70 : decode c_LY_init 70 = .ok (.putfield 40, 3) := by decide +kernel
theorem d_LY_init_73 : decode c_LY_init 73 = .ok (.aload_n 0, 1) := by decide +kernel
theorem d_LY_init_74 : decode c_LY_init 74 = .ok (.iload_n 3, 1) := by decide +kernel
theorem d_LY_init_75 : decode c_LY_init 75 = .ok (.newarray .int, 2) := by decide +kernel
theorem d_LY_init_77 : decode c_LY_init 77 = .ok (.putfield 43, 3) := by decide +kernel
theorem d_LY_init_80 : decode c_LY_init 80 = .ok (.return_, 1) := by decide +kernel
theorem d_LY_build_0 : decode c_LY_build 0 = .ok (.aload_n 0, 1) := by decide +kernel
theorem d_LY_build_1 : decode c_LY_build 1 = .ok (.getfield 37, 3) := by decide +kernel
theorem d_LY_build_4 : decode c_LY_build 4 = .ok (.iconst 0, 1) := by decide +kernel
theorem d_LY_build_5 : decode c_LY_build 5 = .ok (.invokestatic 46, 3) := by decide +kernel
theorem d_LY_build_8 : decode c_LY_build 8 = .ok (.aload_n 0, 1) := by decide +kernel
theorem d_LY_build_9 : decode c_LY_build 9 = .ok (.getfield 40, 3) := by decide +kernel
theorem d_LY_build_12 : decode c_LY_build 12 = .ok (.iconst 0, 1) := by decide +kernel
theorem d_LY_build_13 : decode c_LY_build 13 = .ok (.aload_n 0, 1) := by decide +kernel
theorem d_LY_build_14 : decode c_LY_build 14 = .ok (.getfield 13, 3) := by decide +kernel
theorem d_LY_build_17 : decode c_LY_build 17 = .ok (.invokevirtual 52, 3) := by decide +kernel
theorem d_LY_build_20 : decode c_LY_build 20 = .ok (.iastore, 1) := by decide +kernel
theorem d_LY_build_21 : decode c_LY_build 21 = .ok (.aload_n 0, 1) := by decide +kernel
theorem d_LY_build_22 : decode c_LY_build 22 = .ok (.getfield 26, 3) := by decide +kernel
theorem d_LY_build_25 : decode c_LY_build 25 = .ok (.iconst 0, 1) := by decide +kernel
theorem d_LY_build_26 : decode c_LY_build 26 = .ok (.iconst 1, 1) := by decide +kernel
theorem d_LY_build_27 : decode c_LY_build 27 = .ok (.iastore, 1) := by decide +kernel
theorem d_LY_build_28 : decode c_LY_build 28 = .ok (.iconst 0, 1) := by decide +kernel
theorem d_LY_build_29 : decode c_LY_build 29 = .ok (.istore_n 1, 1) := by decide +kernel
theorem d_LY_build_30 : decode c_LY_build 30 = .ok (.iconst 0, 1) := by decide +kernel
theorem d_LY_build_31 : decode c_LY_build 31 = .ok (.istore_n 2, 1) := by decide +kernel
theorem d_LY_build_32 : decode c_LY_build 32 = .ok (.iload_n 2, 1) := by decide +kernel
theorem d_LY_build_33 : decode c_LY_build 33 = .ok (.aload_n 0, 1) := by decide +kernel
theorem d_LY_build_34 : decode c_LY_build 34 = .ok (.getfield 7, 3) := by decide +kernel
theorem d_LY_build_37 : decode c_LY_build 37 = .ok (.getfield 21, 3) := by decide +kernel
theorem d_LY_build_40 : decode c_LY_build 40 = .ok (.if_icmp .ge 94, 3) := by decide +kernel
theorem d_LY_build_43 : decode c_LY_build 43 = .ok (.aload_n 0, 1) := by decide +kernel
theorem d_LY_build_44 : decode c_LY_build 44 = .ok (.iconst 0, 1) := by decide +kernel
theorem d_LY_build_45 : decode c_LY_build 45 = .ok (.putfield 58, 3) := by decide +kernel
theorem d_LY_build_48 : decode c_LY_build 48 = .ok (.iconst 0, 1) := by decide +kernel
theorem d_LY_build_49 : decode c_LY_build 49 = .ok (.istore_n 3, 1) := by decide +kernel
theorem d_LY_build_50 : decode c_LY_build 50 = .ok (.iload_n 3, 1) := by decide +kernel
theorem d_LY_build_51 : decode c_LY_build 51 = .ok (.aload_n 0, 1) := by decide +kernel
theorem d_LY_build_52 : decode c_LY_build 52 = .ok (.getfield 26, 3) := by decide +kernel
theorem d_LY_build_55 : decode c_LY_build 55 = .ok (.iload_n 2, 1) := by decide +kernel
theorem d_LY_build_56 : decode c_LY_build 56 = .ok (.iaload, 1) := by decide +kernel
theorem d_LY_build_57 : decode c_LY_build 57 = .ok (.if_icmp .ge 34, 3) := by decide +kernel
theorem d_LY_build_60 : decode c_LY_build 60 = .ok (.aload_n 0, 1) := by decide +kernel
theorem d_LY_build_61 : decode c_LY_build 61 = .ok (.getfield 30, 3) := by decide +kernel
theorem d_LY_build_64 : decode c_LY_build 64 = .ok (.iload_n 2, 1) := by decide +kernel
theorem d_LY_build_65 : decode c_LY_build 65 = .ok (.aload_n 0, 1) := by decide +kernel
theorem d_LY_build_66 : decode c_LY_build 66 = .ok (.getfield 17, 3) := by decide +kernel
theorem d_LY_build_69 : decode c_LY_build 69 = .ok (.imul, 1) := by decide +kernel
theorem d_LY_build_70 : decode c_LY_build 70 = .ok (.iload_n 3, 1) := by decide +kernel
theorem d_LY_build_71 : decode c_LY_build 71 = .ok (.iadd, 1) := by decide +kernel
theorem d_LY_build_72 : decode c_LY_build 72 = .ok (.aload_n 0, 1) := by decide +kernel
theorem d_LY_build_73 : decode c_LY_build 73 = .ok (.aload_n 0, 1) := by decide +kernel
theorem d_LY_build_74 : decode c_LY_build 74 = .ok (.getfield 40, 3) := by decide +kernel
theorem d_LY_build_77 : decode c_LY_build 77 = .ok (.iload_n 3, 1) := by decide +kernel
theorem d_LY_build_78 : decode c_LY_build 78 = .ok (.iaload, 1) := by decide +kernel
theorem d_LY_build_79 : decode c_LY_build 79 = .ok (.iload_n 2, 1) := by decide +kernel
theorem d_LY_build_80 : decode c_LY_build 80 = .ok (.iload_n 1, 1) := by decide +kernel
theorem d_LY_build_81 : decode c_LY_build 81 = .ok (.invokevirtual 61, 3) := by decide +kernel
theorem d_LY_build_84 : decode c_LY_build 84 = .ok (.iastore, 1) := by decide +kernel
theorem d_LY_build_85 : decode c_LY_build 85 = .ok (.iinc 3 1, 3) := by decide +kernel
theorem d_LY_build_88 : decode c_LY_build 88 = .ok (.goto (-38), 3) := by decide +kernel
theorem d_LY_build_91 : decode c_LY_build 91 = .ok (.aload_n 0, 1) := by decide +kernel
theorem d_LY_build_92 : decode c_LY_build 92 = .ok (.getfield 26, 3) := by decide +kernel
theorem d_LY_build_95 : decode c_LY_build 95 = .ok (.iload_n 2, 1) := by decide +kernel
theorem d_LY_build_96 : decode c_LY_build 96 = .ok (.iconst 1, 1) := by decide +kernel
theorem d_LY_build_97 : decode c_LY_build 97 = .ok (.iadd, 1) := by decide +kernel
theorem d_LY_build_98 : decode c_LY_build 98 = .ok (.aload_n 0, 1) := by decide +kernel
theorem d_LY_build_99 : decode c_LY_build 99 = .ok (.getfield 58, 3) := by decide +kernel
theorem d_LY_build_102 : decode c_LY_build 102 = .ok (.iastore, 1) := by decide +kernel
theorem d_LY_build_103 : decode c_LY_build 103 = .ok (.aload_n 0, 1) := by decide +kernel
theorem d_LY_build_104 : decode c_LY_build 104 = .ok (.invokevirtual 65, 3) := by decide +kernel
theorem d_LY_build_107 : decode c_LY_build 107 = .ok (.iload_n 1, 1) := by decide +kernel
theorem d_LY_build_108 : decode c_LY_build 108 = .ok (.iconst 1, 1) := by decide +kernel
theorem d_LY_build_109 : decode c_LY_build 109 = .ok (.iadd, 1) := by decide +kernel
theorem d_LY_build_110 : decode c_LY_build 110 = .ok (.aload_n 0, 1) := by decide +kernel
theorem d_LY_build_111 : decode c_LY_build 111 = .ok (.getfield 7, 3) := by decide +kernel
theorem d_LY_build_114 : decode c_LY_build 114 = .ok (.getfield 68, 3) := by decide +kernel
theorem d_LY_build_117 : decode c_LY_build 117 = .ok (.if_icmp .ge 9, 3) := by decide +kernel
theorem d_LY_build_120 : decode c_LY_build 120 = .ok (.iload_n 1, 1) := by decide +kernel
theorem d_LY_build_121 : decode c_LY_build 121 = .ok (.iconst 1, 1) := by decide +kernel
theorem d_LY_build_122 : decode c_LY_build 122 = .ok (.iadd, 1) := by decide +kernel
theorem d_LY_build_123 : decode c_LY_build 123 = .ok (.goto 4, 3) := by decide +kernel
theorem d_LY_build_126 : decode c_LY_build 126 = .ok (.iconst 0, 1) := by decide +kernel
theorem d_LY_build_127 : decode c_LY_build 127 = .ok (.istore_n 1, 1) := by decide +kernel
theorem d_LY_build_128 : decode c_LY_build 128 = .ok (.iinc 2 1, 3) := by decide +kernel
theorem d_LY_build_131 : decode c_LY_build 131 = .ok (.goto (-99), 3) := by decide +kernel
theorem d_LY_build_134 : decode c_LY_build 134 = .ok (.iconst 0, 1) := by decide +kernel
theorem d_LY_build_135 : decode c_LY_build 135 = .ok (.istore_n 2, 1) := by decide +kernel
theorem d_LY_build_136 : decode c_LY_build 136 = .ok (.iload_n 2, 1) := by decide +kernel
theorem d_LY_build_137 : decode c_LY_build 137 = .ok (.aload_n 0, 1) := by decide +kernel
theorem d_LY_build_138 : decode c_LY_build 138 = .ok (.getfield 26, 3) := by decide +kernel
theorem d_LY_build_141 : decode c_LY_build 141 = .ok (.aload_n 0, 1) := by decide +kernel
theorem d_LY_build_142 : decode c_LY_build 142 = .ok (.getfield 7, 3) := by decide +kernel
theorem d_LY_build_145 : decode c_LY_build 145 = .ok (.getfield 21, 3) := by decide +kernel
theorem d_LY_build_148 : decode c_LY_build 148 = .ok (.iaload, 1) := by decide +kernel
theorem d_LY_build_149 : decode c_LY_build 149 = .ok (.if_icmp .ge 49, 3) := by decide +kernel
theorem d_LY_build_152 : decode c_LY_build 152 = .ok (.aload_n 0, 1) := by decide +kernel
theorem d_LY_build_153 : decode c_LY_build 153 = .ok (.getfield 33, 3) := by decide +kernel
theorem d_LY_build_156 : decode c_LY_build 156 = .ok (.aload_n 0, 1) := by decide +kernel
theorem d_LY_build_157 : decode c_LY_build 157 = .ok (.getfield 7, 3) := by decide +kernel
theorem d_LY_build_160 : decode c_LY_build 160 = .ok (.getfield 21, 3) := by decide +kernel
theorem d_LY_build_163 : decode c_LY_build 163 = .ok (.aload_n 0, 1) := by decide +kernel
theorem d_LY_build_164 : decode c_LY_build 164 = .ok (.getfield 17, 3) := by decide +kernel
theorem d_LY_build_167 : decode c_LY_build 167 = .ok (.imul, 1) := by decide +kernel
theorem d_LY_build_168 : decode c_LY_build 168 = .ok (.iload_n 2, 1) := by decide +kernel
theorem d_LY_build_169 : decode c_LY_build 169 = .ok (.iadd, 1) := by decide +kernel
theorem d_LY_build_170 : decode c_LY_build 170 = .ok (.aload_n 0, 1) := by decide +kernel
theorem d_LY_build_171 : decode c_LY_build 171 = .ok (.getfield 13, 3) := by decide +kernel
theorem d_LY_build_174 : decode c_LY_build 174 = .ok (.aload_n 0, 1) := by decide +kernel
theorem d_LY_build_175 : decode c_LY_build 175 = .ok (.getfield 40, 3) := by decide +kernel
theorem d_LY_build_178 : decode c_LY_build 178 = .ok (.iload_n 2, 1) := by decide +kernel
theorem d_LY_build_179 : decode c_LY_build 179 = .ok (.iaload, 1) := by decide +kernel
theorem d_LY_build_180 : decode c_LY_build 180 = .ok (.invokevirtual 71, 3) := by decide +kernel
theorem d_LY_build_183 : decode c_LY_build 183 = .ok (.ifCond .eq 7, 3) := by decide +kernel
theorem d_LY_build_186 : decode c_LY_build 186 = .ok (.lconst 1, 1) := by decide +kernel
theorem d_LY_build_187 : decode c_LY_build 187 = .ok (.goto 4, 3) := by decide +kernel
theorem d_LY_build_190 : decode c_LY_build 190 = .ok (.lconst 0, 1) := by decide +kernel
theorem d_LY_build_191 : decode c_LY_build 191 = .ok (.lastore, 1) := by decide +kernel
theorem d_LY_build_192 : decode c_LY_build 192 = .ok (.iinc 2 1, 3) := by decide +kernel
theorem d_LY_build_195 : decode c_LY_build 195 = .ok (.goto (-59), 3) := by decide +kernel
theorem d_LY_build_198 : decode c_LY_build 198 = .ok (.return_, 1) := by decide +kernel
theorem d_LY_swapCodes_0 : decode c_LY_swapCodes 0 = .ok (.aload_n 0, 1) := by decide +kernel
theorem d_LY_swapCodes_1 : decode c_LY_swapCodes 1 = .ok (.getfield 40, 3) := by decide +kernel
theorem d_LY_swapCodes_4 : decode c_LY_swapCodes 4 = .ok (.astore_n 1, 1) := by decide +kernel
theorem d_LY_swapCodes_5 : decode c_LY_swapCodes 5 = .ok (.aload_n 0, 1) := by decide +kernel
theorem d_LY_swapCodes_6 : decode c_LY_swapCodes 6 = .ok (.aload_n 0, 1) := by decide +kernel
theorem d_LY_swapCodes_7 : decode c_LY_swapCodes 7 = .ok (.getfield 43, 3) := by decide +kernel
theorem d_LY_swapCodes_10 : decode c_LY_swapCodes 10 = .ok (.putfield 40, 3) := by decide +kernel
theorem d_LY_swapCodes_13 : decode c_LY_swapCodes 13 = .ok (.aload_n 0, 1) := by decide +kernel
theorem d_LY_swapCodes_14 : decode c_LY_swapCodes 14 = .ok (.aload_n 1, 1) := by decide +kernel
theorem d_LY_swapCodes_15 : decode c_LY_swapCodes 15 = .ok (.putfield 43, 3) := by decide +kernel
theorem d_LY_swapCodes_18 : decode c_LY_swapCodes 18 = .ok (.return_, 1) := by decide +kernel
theorem d_LY_leadsFrom_0 : decode c_LY_leadsFrom 0 = .ok (.aload_n 0, 1) := by decide +kernel
theorem d_LY_leadsFrom_1 : decode c_LY_leadsFrom 1 = .ok (.getfield 7, 3) := by decide +kernel
theorem d_LY_leadsFrom_4 : decode c_LY_leadsFrom 4 = .ok (.iload_n 2, 1) := by decide +kernel
theorem d_LY_leadsFrom_5 : decode c_LY_leadsFrom 5 = .ok (.invokevirtual 75, 3) := by decide +kernel
theorem d_LY_leadsFrom_8 : decode c_LY_leadsFrom 8 = .ok (.istore 4, 2) := by decide +kernel
theorem d_LY_leadsFrom_10 : decode c_LY_leadsFrom 10 = .ok (.iconst 0, 1) := by decide +kernel
theorem d_LY_leadsFrom_11 : decode c_LY_leadsFrom 11 = .ok (.istore 5, 2) := by decide +kernel
theorem d_LY_leadsFrom_13 : decode c_LY_leadsFrom 13 = .ok (.iconst 0, 1) := by decide +kernel
theorem d_LY_leadsFrom_14 : decode c_LY_leadsFrom 14 = .ok (.istore 6, 2) := by decide +kernel
theorem d_LY_leadsFrom_16 : decode c_LY_leadsFrom 16 = .ok (.iload 6, 2) := by decide +kernel
theorem d_LY_leadsFrom_18 : decode c_LY_leadsFrom 18 = .ok (.iconst 4, 1) := by decide +kernel
theorem d_LY_leadsFrom_19 : decode c_LY_leadsFrom 19 = .ok (.if_icmp .ge 73, 3) := by decide +kernel
theorem d_LY_leadsFrom_22 : decode c_LY_leadsFrom 22 = .ok (.iload 6, 2) := by decide +kernel
theorem d_LY_leadsFrom_24 : decode c_LY_leadsFrom 24 = .ok (.iload 4, 2) := by decide +kernel
theorem d_LY_leadsFrom_26 : decode c_LY_leadsFrom 26 = .ok (.iconst (-1), 1) := by decide +kernel
theorem d_LY_leadsFrom_27 : decode c_LY_leadsFrom 27 = .ok (.ixor, 1) := by decide +kernel
theorem d_LY_leadsFrom_28 : decode c_LY_leadsFrom 28 = .ok (.iand, 1) := by decide +kernel
theorem d_LY_leadsFrom_29 : decode c_LY_leadsFrom 29 = .ok (.ifCond .ne 18, 3) := by decide +kernel
theorem d_LY_leadsFrom_32 : decode c_LY_leadsFrom 32 = .ok (.aload_n 0, 1) := by decide +kernel
theorem d_LY_leadsFrom_33 : decode c_LY_leadsFrom 33 = .ok (.getfield 13, 3) := by decide +kernel
theorem d_LY_leadsFrom_36 : decode c_LY_leadsFrom 36 = .ok (.iload_n 1, 1) := by decide +kernel
theorem d_LY_leadsFrom_37 : decode c_LY_leadsFrom 37 = .ok (.iload_n 2, 1) := by decide +kernel
theorem d_LY_leadsFrom_38 : decode c_LY_leadsFrom 38 = .ok (.iload_n 3, 1) := by decide +kernel
theorem d_LY_leadsFrom_39 : decode c_LY_leadsFrom 39 = .ok (.iload 6, 2) := by decide +kernel
theorem d_LY_leadsFrom_41 : decode c_LY_leadsFrom 41 = .ok (.invokevirtual 79, 3) := by decide +kernel
theorem d_LY_leadsFrom_44 : decode c_LY_leadsFrom 44 = .ok (.goto 4, 3) := by decide +kernel
theorem d_LY_leadsFrom_47 : decode c_LY_leadsFrom 47 = .ok (.iconst (-1), 1) := by decide +kernel
theorem d_LY_leadsFrom_48 : decode c_LY_leadsFrom 48 = .ok (.istore 7, 2) := by decide +kernel
theorem d_LY_leadsFrom_50 : decode c_LY_leadsFrom 50 = .ok (.iload 7, 2) := by decide +kernel
theorem d_LY_leadsFrom_52 : decode c_LY_leadsFrom 52 = .ok (.iconst (-1), 1) := by decide +kernel
theorem d_LY_leadsFrom_53 : decode c_LY_leadsFrom 53 = .ok (.if_icmp .ne 9, 3) := by decide +kernel
theorem d_LY_leadsFrom_56 : decode c_LY_leadsFrom 56 = .ok (.sipush 255, 3) := by decide +kernel
theorem d_LY_leadsFrom_59 : decode c_LY_leadsFrom 59 = .ok (.goto 12, 3) := by decide +kernel
theorem d_LY_leadsFrom_62 : decode c_LY_leadsFrom 62 = .ok (.aload_n 0, 1) := by decide +kernel
theorem d_LY_leadsFrom_63 : decode c_LY_leadsFrom 63 = .ok (.iload 7, 2) := by decide +kernel
theorem d_LY_leadsFrom_65 : decode c_LY_leadsFrom 65 = .ok (.iload_n 2, 1) := by decide +kernel
theorem d_LY_leadsFrom_66 : decode c_LY_leadsFrom 66 = .ok (.iconst 1, 1) := by decide +kernel
theorem d_LY_leadsFrom_67 : decode c_LY_leadsFrom 67 = .ok (.iadd, 1) := by decide +kernel
theorem d_LY_leadsFrom_68 : decode c_LY_leadsFrom 68 = .ok (.invokevirtual 83, 3) := by decide +kernel
theorem d_LY_leadsFrom_71 : decode c_LY_leadsFrom 71 = .ok (.istore 8, 2) := by decide +kernel
theorem d_LY_leadsFrom_73 : decode c_LY_leadsFrom 73 = .ok (.iload 5, 2) := by decide +kernel
theorem d_LY_leadsFrom_75 : decode c_LY_leadsFrom 75 = .ok (.iload 8, 2) := by decide +kernel
theorem d_LY_leadsFrom_77 : decode c_LY_leadsFrom 77 = .ok (.bipush 8, 2) := by decide +kernel
theorem d_LY_leadsFrom_79 : decode c_LY_leadsFrom 79 = .ok (.iload 6, 2) := by decide +kernel
theorem d_LY_leadsFrom_81 : decode c_LY_leadsFrom 81 = .ok (.imul, 1) := by decide +kernel
theorem d_LY_leadsFrom_82 : decode c_LY_leadsFrom 82 = .ok (.ishl, 1) := by decide +kernel
theorem d_LY_leadsFrom_83 : decode c_LY_leadsFrom 83 = .ok (.ior, 1) := by decide +kernel
theorem d_LY_leadsFrom_84 : decode c_LY_leadsFrom 84 = .ok (.istore 5, 2) := by decide +kernel
theorem d_LY_leadsFrom_86 : decode c_LY_leadsFrom 86 = .ok (.iinc 6 1, 3) := by decide +kernel
theorem d_LY_leadsFrom_89 : decode c_LY_leadsFrom 89 = .ok (.goto (-73), 3) := by decide +kernel
theorem d_LY_leadsFrom_92 : decode c_LY_leadsFrom 92 = .ok (.iload 5, 2) := by decide +kernel
theorem d_LY_leadsFrom_94 : decode c_LY_leadsFrom 94 = .ok (.ireturn, 1) := by decide +kernel
