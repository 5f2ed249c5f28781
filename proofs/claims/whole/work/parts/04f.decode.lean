theorem d_MD_isLess_0 : decode c_MD_isLess 0 = .ok (.lload_n 0, 1) := by decide +kernel
theorem d_MD_isLess_1 : decode c_MD_isLess 1 = .ok (.lload_n 2, 1) := by decide +kernel
theorem d_MD_isLess_2 : decode c_MD_isLess 2 = .ok (.lxor, 1) := by decide +kernel
theorem d_MD_isLess_3 : decode c_MD_isLess 3 = .ok (.lstore 4, 2) := by decide +kernel
theorem d_MD_isLess_5 : decode c_MD_isLess 5 = .ok (.lload_n 0, 1) := by decide +kernel
theorem d_MD_isLess_6 : decode c_MD_isLess 6 = .ok (.lload 4, 2) := by decide +kernel
theorem d_MD_isLess_8 : decode c_MD_isLess 8 = .ok (.lload 4, 2) := by decide +kernel
theorem d_MD_isLess_10 : decode c_MD_isLess 10 = .ok (.lneg, 1) := by decide +kernel
theorem d_MD_isLess_11 : decode c_MD_isLess 11 = .ok (.land, 1) := by decide +kernel
theorem d_MD_isLess_12 : decode c_MD_isLess 12 = .ok (.land, 1) := by decide +kernel
theorem d_MD_isLess_13 : decode c_MD_isLess 13 = .ok (.lconst 0, 1) := by decide +kernel
theorem d_MD_isLess_14 : decode c_MD_isLess 14 = .ok (.lcmp, 1) := by decide +kernel
theorem d_MD_isLess_15 : decode c_MD_isLess 15 = .ok (.ifCond .ne 14, 3) := by decide +kernel
theorem d_MD_isLess_18 : decode c_MD_isLess 18 = .ok (.lload 4, 2) := by decide +kernel
theorem d_MD_isLess_20 : decode c_MD_isLess 20 = .ok (.lconst 0, 1) := by decide +kernel
theorem d_MD_isLess_21 : decode c_MD_isLess 21 = .ok (.lcmp, 1) := by decide +kernel
theorem d_MD_isLess_22 : decode c_MD_isLess 22 = .ok (.ifCond .eq 7, 3) := by decide +kernel
theorem d_MD_isLess_25 : decode c_MD_isLess 25 = .ok (.iconst 1, 1) := by decide +kernel
theorem d_MD_isLess_26 : decode c_MD_isLess 26 = .ok (.goto 4, 3) := by decide +kernel
theorem d_MD_isLess_29 : decode c_MD_isLess 29 = .ok (.iconst 0, 1) := by decide +kernel
theorem d_MD_isLess_30 : decode c_MD_isLess 30 = .ok (.ireturn, 1) := by decide +kernel
theorem d_MD_sort_0 : decode c_MD_sort 0 = .ok (.iconst 1, 1) := by decide +kernel
theorem d_MD_sort_1 : decode c_MD_sort 1 = .ok (.istore_n 1, 1) := by decide +kernel
theorem d_MD_sort_2 : decode c_MD_sort 2 = .ok (.iload_n 1, 1) := by decide +kernel
theorem d_MD_sort_3 : decode c_MD_sort 3 = .ok (.aload_n 0, 1) := by decide +kernel
theorem d_MD_sort_4 : decode c_MD_sort 4 = .ok (.getfield 106, 3) := by decide +kernel
theorem d_MD_sort_7 : decode c_MD_sort 7 = .ok (.if_icmp .ge 215, 3) := by decide +kernel
theorem d_MD_sort_10 : decode c_MD_sort 10 = .ok (.iconst 0, 1) := by decide +kernel
theorem d_MD_sort_11 : decode c_MD_sort 11 = .ok (.istore_n 2, 1) := by decide +kernel
theorem d_MD_sort_12 : decode c_MD_sort 12 = .ok (.iload_n 2, 1) := by decide +kernel
theorem d_MD_sort_13 : decode c_MD_sort 13 = .ok (.aload_n 0, 1) := by decide +kernel
theorem d_MD_sort_14 : decode c_MD_sort 14 = .ok (.getfield 106, 3) := by decide +kernel
theorem d_MD_sort_17 : decode c_MD_sort 17 = .ok (.if_icmp .ge 180, 3) := by decide +kernel
theorem d_MD_sort_20 : decode c_MD_sort 20 = .ok (.iload_n 2, 1) := by decide +kernel
theorem d_MD_sort_21 : decode c_MD_sort 21 = .ok (.iload_n 1, 1) := by decide +kernel
theorem d_MD_sort_22 : decode c_MD_sort 22 = .ok (.iadd, 1) := by decide +kernel
theorem d_MD_sort_23 : decode c_MD_sort 23 = .ok (.aload_n 0, 1) := by decide +kernel
theorem d_MD_sort_24 : decode c_MD_sort 24 = .ok (.getfield 106, 3) := by decide +kernel
theorem d_MD_sort_27 : decode c_MD_sort 27 = .ok (.if_icmp .ge 9, 3) := by decide +kernel
theorem d_MD_sort_30 : decode c_MD_sort 30 = .ok (.iload_n 2, 1) := by decide +kernel
theorem d_MD_sort_31 : decode c_MD_sort 31 = .ok (.iload_n 1, 1) := by decide +kernel
theorem d_MD_sort_32 : decode c_MD_sort 32 = .ok (.iadd, 1) := by decide +kernel
theorem d_MD_sort_33 : decode c_MD_sort 33 = .ok (.goto 7, 3) := by decide +kernel
theorem d_MD_sort_36 : decode c_MD_sort 36 = .ok (.aload_n 0, 1) := by decide +kernel
theorem d_MD_sort_37 : decode c_MD_sort 37 = .ok (.getfield 106, 3) := by decide +kernel
theorem d_MD_sort_40 : decode c_MD_sort 40 = .ok (.istore_n 3, 1) := by decide +kernel
theorem d_MD_sort_41 : decode c_MD_sort 41 = .ok (.iload_n 2, 1) := by decide +kernel
theorem d_MD_sort_42 : decode c_MD_sort 42 = .ok (.iconst 2, 1) := by decide +kernel
theorem d_MD_sort_43 : decode c_MD_sort 43 = .ok (.iload_n 1, 1) := by decide +kernel
theorem d_MD_sort_44 : decode c_MD_sort 44 = .ok (.imul, 1) := by decide +kernel
theorem d_MD_sort_45 : decode c_MD_sort 45 = .ok (.iadd, 1) := by decide +kernel
theorem d_MD_sort_46 : decode c_MD_sort 46 = .ok (.aload_n 0, 1) := by decide +kernel
theorem d_MD_sort_47 : decode c_MD_sort 47 = .ok (.getfield 106, 3) := by decide +kernel
theorem d_MD_sort_50 : decode c_MD_sort 50 = .ok (.if_icmp .ge 11, 3) := by decide +kernel
theorem d_MD_sort_53 : decode c_MD_sort 53 = .ok (.iload_n 2, 1) := by decide +kernel
theorem d_MD_sort_54 : decode c_MD_sort 54 = .ok (.iconst 2, 1) := by decide +kernel
theorem d_MD_sort_55 : decode c_MD_sort 55 = .ok (.iload_n 1, 1) := by decide +kernel
theorem d_MD_sort_56 : decode c_MD_sort 56 = .ok (.imul, 1) := by decide +kernel
theorem d_MD_sort_57 : decode c_MD_sort 57 = .ok (.iadd, 1) := by decide +kernel
theorem d_MD_sort_58 : decode c_MD_sort 58 = .ok (.goto 7, 3) := by decide +kernel
theorem d_MD_sort_61 : decode c_MD_sort 61 = .ok (.aload_n 0, 1) := by decide +kernel
theorem d_MD_sort_62 : decode c_MD_sort 62 = .ok (.getfield 106, 3) := by decide +kernel
theorem d_MD_sort_65 : decode c_MD_sort 65 = .ok (.istore 4, 2) := by decide +kernel
theorem d_MD_sort_67 : decode c_MD_sort 67 = .ok (.iload_n 2, 1) := by decide +kernel
theorem d_MD_sort_68 : decode c_MD_sort 68 = .ok (.istore 5, 2) := by decide +kernel
theorem d_MD_sort_70 : decode c_MD_sort 70 = .ok (.iload_n 3, 1) := by decide +kernel
theorem d_MD_sort_71 : decode c_MD_sort 71 = .ok (.istore 6, 2) := by decide +kernel
theorem d_MD_sort_73 : decode c_MD_sort 73 = .ok (.iload_n 2, 1) := by decide +kernel
theorem d_MD_sort_74 : decode c_MD_sort 74 = .ok (.istore 7, 2) := by decide +kernel
theorem d_MD_sort_76 : decode c_MD_sort 76 = .ok (.iload 7, 2) := by decide +kernel
theorem d_MD_sort_78 : decode c_MD_sort 78 = .ok (.iload 4, 2) := by decide +kernel
theorem d_MD_sort_80 : decode c_MD_sort 80 = .ok (.if_icmp .ge 108, 3) := by decide +kernel
theorem d_MD_sort_83 : decode c_MD_sort 83 = .ok (.iload 6, 2) := by decide +kernel
theorem d_MD_sort_85 : decode c_MD_sort 85 = .ok (.iload 4, 2) := by decide +kernel
theorem d_MD_sort_87 : decode c_MD_sort 87 = .ok (.if_icmp .eq 29, 3) := by decide +kernel
theorem d_MD_sort_90 : decode c_MD_sort 90 = .ok (.iload 5, 2) := by decide +kernel
theorem d_MD_sort_92 : decode c_MD_sort 92 = .ok (.iload_n 3, 1) := by decide +kernel
theorem d_MD_sort_93 : decode c_MD_sort 93 = .ok (.if_icmp .ge 27, 3) := by decide +kernel
theorem d_MD_sort_96 : decode c_MD_sort 96 = .ok (.aload_n 0, 1) := by decide +kernel
theorem d_MD_sort_97 : decode c_MD_sort 97 = .ok (.getfield 31, 3) := by decide +kernel
theorem d_MD_sort_100 : decode c_MD_sort 100 = .ok (.iload 6, 2) := by decide +kernel
theorem d_MD_sort_102 : decode c_MD_sort 102 = .ok (.laload, 1) := by decide +kernel
theorem d_MD_sort_103 : decode c_MD_sort 103 = .ok (.aload_n 0, 1) := by decide +kernel
theorem d_MD_sort_104 : decode c_MD_sort 104 = .ok (.getfield 31, 3) := by decide +kernel
theorem d_MD_sort_107 : decode c_MD_sort 107 = .ok (.iload 5, 2) := by decide +kernel
theorem d_MD_sort_109 : decode c_MD_sort 109 = .ok (.laload, 1) := by decide +kernel
theorem d_MD_sort_110 : decode c_MD_sort 110 = .ok (.invokestatic 123, 3) := by decide +kernel
theorem d_MD_sort_113 : decode c_MD_sort 113 = .ok (.ifCond .ne 7, 3) := by decide +kernel
theorem d_MD_sort_116 : decode c_MD_sort 116 = .ok (.iconst 1, 1) := by decide +kernel
theorem d_MD_sort_117 : decode c_MD_sort 117 = .ok (.goto 4, 3) := by decide +kernel
theorem d_MD_sort_120 : decode c_MD_sort 120 = .ok (.iconst 0, 1) := by decide +kernel
theorem d_MD_sort_121 : decode c_MD_sort 121 = .ok (.istore 8, 2) := by decide +kernel
theorem d_MD_sort_123 : decode c_MD_sort 123 = .ok (.aload_n 0, 1) := by decide +kernel
theorem d_MD_sort_124 : decode c_MD_sort 124 = .ok (.getfield 35, 3) := by decide +kernel
theorem d_MD_sort_127 : decode c_MD_sort 127 = .ok (.iload 7, 2) := by decide +kernel
theorem d_MD_sort_129 : decode c_MD_sort 129 = .ok (.iload 8, 2) := by decide +kernel
theorem d_MD_sort_131 : decode c_MD_sort 131 = .ok (.ifCond .eq 13, 3) := by decide +kernel
theorem d_MD_sort_134 : decode c_MD_sort 134 = .ok (.aload_n 0, 1) := by decide +kernel
theorem d_MD_sort_135 : decode c_MD_sort 135 = .ok (.getfield 31, 3) := by decide +kernel
theorem d_MD_sort_138 : decode c_MD_sort 138 = .ok (.iload 5, 2) := by decide +kernel
theorem d_MD_sort_140 : decode c_MD_sort 140 = .ok (.laload, 1) := by decide +kernel
theorem d_MD_sort_141 : decode c_MD_sort 141 = .ok (.goto 10, 3) := by decide +kernel
theorem d_MD_sort_144 : decode c_MD_sort 144 = .ok (.aload_n 0, 1) := by decide +kernel
theorem d_MD_sort_145 : decode c_MD_sort 145 = .ok (.getfield 31, 3) := by decide +kernel
theorem d_MD_sort_148 : decode c_MD_sort 148 = .ok (.iload 6, 2) := by decide +kernel
theorem d_MD_sort_150 : decode c_MD_sort 150 = .ok (.laload, 1) := by decide +kernel
theorem d_MD_sort_151 : decode c_MD_sort 151 = .ok (.lastore, 1) := by decide +kernel
theorem d_MD_sort_152 : decode c_MD_sort 152 = .ok (.iload 5, 2) := by decide +kernel
theorem d_MD_sort_154 : decode c_MD_sort 154 = .ok (.iload 8, 2) := by decide +kernel
theorem d_MD_sort_156 : decode c_MD_sort 156 = .ok (.ifCond .eq 7, 3) := by decide +kernel
theorem d_MD_sort_159 : decode c_MD_sort 159 = .ok (.iconst 1, 1) := by decide +kernel
theorem d_MD_sort_160 : decode c_MD_sort 160 = .ok (.goto 4, 3) := by decide +kernel
theorem d_MD_sort_163 : decode c_MD_sort 163 = .ok (.iconst 0, 1) := by decide +kernel
theorem d_MD_sort_164 : decode c_MD_sort 164 = .ok (.iadd, 1) := by decide +kernel
theorem d_MD_sort_165 : decode c_MD_sort 165 = .ok (.istore 5, 2) := by decide +kernel
theorem d_MD_sort_167 : decode c_MD_sort 167 = .ok (.iload 6, 2) := by decide +kernel
theorem d_MD_sort_169 : decode c_MD_sort 169 = .ok (.iload 8, 2) := by decide +kernel
theorem d_MD_sort_171 : decode c_MD_sort 171 = .ok (.ifCond .eq 7, 3) := by decide +kernel
theorem d_MD_sort_174 : decode c_MD_sort 174 = .ok (.iconst 0, 1) := by decide +kernel
theorem d_MD_sort_175 : decode c_MD_sort 175 = .ok (.goto 4, 3) := by decide +kernel
theorem d_MD_sort_178 : decode c_MD_sort 178 = .ok (.iconst 1, 1) := by decide +kernel
theorem d_MD_sort_179 : decode c_MD_sort 179 = .ok (.iadd, 1) := by decide +kernel
theorem d_MD_sort_180 : decode c_MD_sort 180 = .ok (.istore 6, 2) := by decide +kernel
theorem d_MD_sort_182 : decode c_MD_sort 182 = .ok (.iinc 7 1, 3) := by decide +kernel
theorem d_MD_sort_185 : decode c_MD_sort 185 = .ok (.goto (-109), 3) := by decide +kernel
theorem d_MD_sort_188 : decode c_MD_sort 188 = .ok (.iload_n 2, 1) := by decide +kernel
theorem d_MD_sort_189 : decode c_MD_sort 189 = .ok (.iconst 2, 1) := by decide +kernel
theorem d_MD_sort_190 : decode c_MD_sort 190 = .ok (.iload_n 1, 1) := by decide +kernel
theorem d_MD_sort_191 : decode c_MD_sort 191 = .ok (.imul, 1) := by decide +kernel
theorem d_MD_sort_192 : decode c_MD_sort 192 = .ok (.iadd, 1) := by decide +kernel
theorem d_MD_sort_193 : decode c_MD_sort 193 = .ok (.istore_n 2, 1) := by decide +kernel
theorem d_MD_sort_194 : decode c_MD_sort 194 = .ok (.goto (-182), 3) := by decide +kernel
theorem d_MD_sort_197 : decode c_MD_sort 197 = .ok (.aload_n 0, 1) := by decide +kernel
theorem d_MD_sort_198 : decode c_MD_sort 198 = .ok (.getfield 31, 3) := by decide +kernel
theorem d_MD_sort_201 : decode c_MD_sort 201 = .ok (.astore_n 2, 1) := by decide +kernel
theorem d_MD_sort_202 : decode c_MD_sort 202 = .ok (.aload_n 0, 1) := by decide +kernel
theorem d_MD_sort_203 : decode c_MD_sort 203 = .ok (.aload_n 0, 1) := by decide +kernel
theorem d_MD_sort_204 : decode c_MD_sort 204 = .ok (.getfield 35, 3) := by decide +kernel
theorem d_MD_sort_207 : decode c_MD_sort 207 = .ok (.putfield 31, 3) := by decide +kernel
theorem d_MD_sort_210 : decode c_MD_sort 210 = .ok (.aload_n 0, 1) := by decide +kernel
theorem d_MD_sort_211 : decode c_MD_sort 211 = .ok (.aload_n 2, 1) := by decide +kernel
theorem d_MD_sort_212 : decode c_MD_sort 212 = .ok (.putfield 35, 3) := by decide +kernel
theorem d_MD_sort_215 : decode c_MD_sort 215 = .ok (.iload_n 1, 1) := by decide +kernel
theorem d_MD_sort_216 : decode c_MD_sort 216 = .ok (.iconst 2, 1) := by decide +kernel
theorem d_MD_sort_217 : decode c_MD_sort 217 = .ok (.imul, 1) := by decide +kernel
theorem d_MD_sort_218 : decode c_MD_sort 218 = .ok (.istore_n 1, 1) := by decide +kernel
theorem d_MD_sort_219 : decode c_MD_sort 219 = .ok (.goto (-217), 3) := by decide +kernel
theorem d_MD_sort_222 : decode c_MD_sort 222 = .ok (.return_, 1) := by decide +kernel
theorem d_MD_countOfPlaces_0 : decode c_MD_countOfPlaces 0 = .ok (.iconst 0, 1) := by decide +kernel
theorem d_MD_countOfPlaces_1 : decode c_MD_countOfPlaces 1 = .ok (.istore_n 1, 1) := by decide +kernel
theorem d_MD_countOfPlaces_2 : decode c_MD_countOfPlaces 2 = .ok (.iconst 0, 1) := by decide +kernel
theorem d_MD_countOfPlaces_3 : decode c_MD_countOfPlaces 3 = .ok (.istore_n 2, 1) := by decide +kernel
theorem d_MD_countOfPlaces_4 : decode c_MD_countOfPlaces 4 = .ok (.iload_n 2, 1) := by decide +kernel
theorem d_MD_countOfPlaces_5 : decode c_MD_countOfPlaces 5 = .ok (.aload_n 0, 1) := by decide +kernel
theorem d_MD_countOfPlaces_6 : decode c_MD_countOfPlaces 6 = .ok (.invokevirtual 81, 3) := by decide +kernel
theorem d_MD_countOfPlaces_9 : decode c_MD_countOfPlaces 9 = .ok (.if_icmp .ge 26, 3) := by decide +kernel
theorem d_MD_countOfPlaces_12 : decode c_MD_countOfPlaces 12 = .ok (.iload_n 1, 1) := by decide +kernel
theorem d_MD_countOfPlaces_13 : decode c_MD_countOfPlaces 13 = .ok (.aload_n 0, 1) := by decide +kernel
theorem d_MD_countOfPlaces_14 : decode c_MD_countOfPlaces 14 = .ok (.getfield 7, 3) := by decide +kernel
theorem d_MD_countOfPlaces_17 : decode c_MD_countOfPlaces 17 = .ok (.iload_n 2, 1) := by decide +kernel
theorem d_MD_countOfPlaces_18 : decode c_MD_countOfPlaces 18 = .ok (.baload, 1) := by decide +kernel
theorem d_MD_countOfPlaces_19 : decode c_MD_countOfPlaces 19 = .ok (.ifCond .eq 7, 3) := by decide +kernel
theorem d_MD_countOfPlaces_22 : decode c_MD_countOfPlaces 22 = .ok (.iconst 0, 1) := by decide +kernel
theorem d_MD_countOfPlaces_23 : decode c_MD_countOfPlaces 23 = .ok (.goto 4, 3) := by decide +kernel
theorem d_MD_countOfPlaces_26 : decode c_MD_countOfPlaces 26 = .ok (.iconst 1, 1) := by decide +kernel
theorem d_MD_countOfPlaces_27 : decode c_MD_countOfPlaces 27 = .ok (.iadd, 1) := by decide +kernel
theorem d_MD_countOfPlaces_28 : decode c_MD_countOfPlaces 28 = .ok (.istore_n 1, 1) := by decide +kernel
theorem d_MD_countOfPlaces_29 : decode c_MD_countOfPlaces 29 = .ok (.iinc 2 1, 3) := by decide +kernel
theorem d_MD_countOfPlaces_32 : decode c_MD_countOfPlaces 32 = .ok (.goto (-28), 3) := by decide +kernel
theorem d_MD_countOfPlaces_35 : decode c_MD_countOfPlaces 35 = .ok (.iload_n 1, 1) := by decide +kernel
theorem d_MD_countOfPlaces_36 : decode c_MD_countOfPlaces 36 = .ok (.ireturn, 1) := by decide +kernel
theorem d_MD_list_0 : decode c_MD_list 0 = .ok (.aload_n 0, 1) := by decide +kernel
theorem d_MD_list_1 : decode c_MD_list 1 = .ok (.getfield 92, 3) := by decide +kernel
theorem d_MD_list_4 : decode c_MD_list 4 = .ok (.ifCond .eq 4, 3) := by decide +kernel
theorem d_MD_list_7 : decode c_MD_list 7 = .ok (.return_, 1) := by decide +kernel
theorem d_MD_list_8 : decode c_MD_list 8 = .ok (.aload_n 0, 1) := by decide +kernel
theorem d_MD_list_9 : decode c_MD_list 9 = .ok (.iconst 1, 1) := by decide +kernel
theorem d_MD_list_10 : decode c_MD_list 10 = .ok (.putfield 92, 3) := by decide +kernel
theorem d_MD_list_13 : decode c_MD_list 13 = .ok (.aload_n 0, 1) := by decide +kernel
theorem d_MD_list_14 : decode c_MD_list 14 = .ok (.iconst 0, 1) := by decide +kernel
theorem d_MD_list_15 : decode c_MD_list 15 = .ok (.putfield 106, 3) := by decide +kernel
theorem d_MD_list_18 : decode c_MD_list 18 = .ok (.aload_n 0, 1) := by decide +kernel
theorem d_MD_list_19 : decode c_MD_list 19 = .ok (.getfield 66, 3) := by decide +kernel
theorem d_MD_list_22 : decode c_MD_list 22 = .ok (.iconst 1, 1) := by decide +kernel
theorem d_MD_list_23 : decode c_MD_list 23 = .ok (.if_icmp .ne 47, 3) := by decide +kernel
theorem d_MD_list_26 : decode c_MD_list 26 = .ok (.aload_n 0, 1) := by decide +kernel
theorem d_MD_list_27 : decode c_MD_list 27 = .ok (.getfield 16, 3) := by decide +kernel
theorem d_MD_list_30 : decode c_MD_list 30 = .ok (.ifCond .lt 90, 3) := by decide +kernel
theorem d_MD_list_33 : decode c_MD_list 33 = .ok (.aload_n 0, 1) := by decide +kernel
theorem d_MD_list_34 : decode c_MD_list 34 = .ok (.getfield 7, 3) := by decide +kernel
theorem d_MD_list_37 : decode c_MD_list 37 = .ok (.aload_n 0, 1) := by decide +kernel
theorem d_MD_list_38 : decode c_MD_list 38 = .ok (.getfield 16, 3) := by decide +kernel
theorem d_MD_list_41 : decode c_MD_list 41 = .ok (.baload, 1) := by decide +kernel
theorem d_MD_list_42 : decode c_MD_list 42 = .ok (.ifCond .ne 78, 3) := by decide +kernel
theorem d_MD_list_45 : decode c_MD_list 45 = .ok (.aload_n 0, 1) := by decide +kernel
theorem d_MD_list_46 : decode c_MD_list 46 = .ok (.getfield 7, 3) := by decide +kernel
theorem d_MD_list_49 : decode c_MD_list 49 = .ok (.aload_n 0, 1) := by decide +kernel
theorem d_MD_list_50 : decode c_MD_list 50 = .ok (.getfield 20, 3) := by decide +kernel
theorem d_MD_list_53 : decode c_MD_list 53 = .ok (.baload, 1) := by decide +kernel
theorem d_MD_list_54 : decode c_MD_list 54 = .ok (.ifCond .ne 66, 3) := by decide +kernel
theorem d_MD_list_57 : decode c_MD_list 57 = .ok (.aload_n 0, 1) := by decide +kernel
theorem d_MD_list_58 : decode c_MD_list 58 = .ok (.aload_n 0, 1) := by decide +kernel
theorem d_MD_list_59 : decode c_MD_list 59 = .ok (.getfield 16, 3) := by decide +kernel
theorem d_MD_list_62 : decode c_MD_list 62 = .ok (.iconst 0, 1) := by decide +kernel
theorem d_MD_list_63 : decode c_MD_list 63 = .ok (.iconst 0, 1) := by decide +kernel
theorem d_MD_list_64 : decode c_MD_list 64 = .ok (.invokevirtual 127, 3) := by decide +kernel
theorem d_MD_list_67 : decode c_MD_list 67 = .ok (.goto 53, 3) := by decide +kernel
theorem d_MD_list_70 : decode c_MD_list 70 = .ok (.aload_n 0, 1) := by decide +kernel
theorem d_MD_list_71 : decode c_MD_list 71 = .ok (.getfield 66, 3) := by decide +kernel
theorem d_MD_list_74 : decode c_MD_list 74 = .ok (.iconst 2, 1) := by decide +kernel
theorem d_MD_list_75 : decode c_MD_list 75 = .ok (.if_icmp .ne 29, 3) := by decide +kernel
theorem d_MD_list_78 : decode c_MD_list 78 = .ok (.iconst 0, 1) := by decide +kernel
theorem d_MD_list_79 : decode c_MD_list 79 = .ok (.istore_n 1, 1) := by decide +kernel
theorem d_MD_list_80 : decode c_MD_list 80 = .ok (.iload_n 1, 1) := by decide +kernel
theorem d_MD_list_81 : decode c_MD_list 81 = .ok (.aload_n 0, 1) := by decide +kernel
theorem d_MD_list_82 : decode c_MD_list 82 = .ok (.invokevirtual 81, 3) := by decide +kernel
theorem d_MD_list_85 : decode c_MD_list 85 = .ok (.if_icmp .ge 16, 3) := by decide +kernel
theorem d_MD_list_88 : decode c_MD_list 88 = .ok (.aload_n 0, 1) := by decide +kernel
theorem d_MD_list_89 : decode c_MD_list 89 = .ok (.iload_n 1, 1) := by decide +kernel
theorem d_MD_list_90 : decode c_MD_list 90 = .ok (.iload_n 1, 1) := by decide +kernel
theorem d_MD_list_91 : decode c_MD_list 91 = .ok (.iconst 1, 1) := by decide +kernel
theorem d_MD_list_92 : decode c_MD_list 92 = .ok (.invokevirtual 127, 3) := by decide +kernel
theorem d_MD_list_95 : decode c_MD_list 95 = .ok (.iinc 1 1, 3) := by decide +kernel
theorem d_MD_list_98 : decode c_MD_list 98 = .ok (.goto (-18), 3) := by decide +kernel
theorem d_MD_list_101 : decode c_MD_list 101 = .ok (.goto 19, 3) := by decide +kernel
theorem d_MD_list_104 : decode c_MD_list 104 = .ok (.aload_n 0, 1) := by decide +kernel
theorem d_MD_list_105 : decode c_MD_list 105 = .ok (.aload_n 0, 1) := by decide +kernel
theorem d_MD_list_106 : decode c_MD_list 106 = .ok (.getfield 66, 3) := by decide +kernel
theorem d_MD_list_109 : decode c_MD_list 109 = .ok (.ifCond .ne 7, 3) := by decide +kernel
theorem d_MD_list_112 : decode c_MD_list 112 = .ok (.iconst 1, 1) := by decide +kernel
theorem d_MD_list_113 : decode c_MD_list 113 = .ok (.goto 4, 3) := by decide +kernel
theorem d_MD_list_116 : decode c_MD_list 116 = .ok (.iconst 2, 1) := by decide +kernel
theorem d_MD_list_117 : decode c_MD_list 117 = .ok (.invokevirtual 131, 3) := by decide +kernel
theorem d_MD_list_120 : decode c_MD_list 120 = .ok (.aload_n 0, 1) := by decide +kernel
theorem d_MD_list_121 : decode c_MD_list 121 = .ok (.invokevirtual 135, 3) := by decide +kernel
theorem d_MD_list_124 : decode c_MD_list 124 = .ok (.return_, 1) := by decide +kernel
theorem d_MD_isAllowed_0 : decode c_MD_isAllowed 0 = .ok (.iconst 0, 1) := by decide +kernel
theorem d_MD_isAllowed_1 : decode c_MD_isAllowed 1 = .ok (.istore_n 3, 1) := by decide +kernel
theorem d_MD_isAllowed_2 : decode c_MD_isAllowed 2 = .ok (.iload_n 3, 1) := by decide +kernel
theorem d_MD_isAllowed_3 : decode c_MD_isAllowed 3 = .ok (.aload_n 0, 1) := by decide +kernel
theorem d_MD_isAllowed_4 : decode c_MD_isAllowed 4 = .ok (.getfield 85, 3) := by decide +kernel
theorem d_MD_isAllowed_7 : decode c_MD_isAllowed 7 = .ok (.if_icmp .ge 58, 3) := by decide +kernel
theorem d_MD_isAllowed_10 : decode c_MD_isAllowed 10 = .ok (.lload_n 1, 1) := by decide +kernel
theorem d_MD_isAllowed_11 : decode c_MD_isAllowed 11 = .ok (.iload_n 3, 1) := by decide +kernel
theorem d_MD_isAllowed_12 : decode c_MD_isAllowed 12 = .ok (.lshr, 1) := by decide +kernel
theorem d_MD_isAllowed_13 : decode c_MD_isAllowed 13 = .ok (.lconst 1, 1) := by decide +kernel
theorem d_MD_isAllowed_14 : decode c_MD_isAllowed 14 = .ok (.land, 1) := by decide +kernel
theorem d_MD_isAllowed_15 : decode c_MD_isAllowed 15 = .ok (.lconst 1, 1) := by decide +kernel
theorem d_MD_isAllowed_16 : decode c_MD_isAllowed 16 = .ok (.lcmp, 1) := by decide +kernel
theorem d_MD_isAllowed_17 : decode c_MD_isAllowed 17 = .ok (.ifCond .ne 7, 3) := by decide +kernel
theorem d_MD_isAllowed_20 : decode c_MD_isAllowed 20 = .ok (.iconst 1, 1) := by decide +kernel
theorem d_MD_isAllowed_21 : decode c_MD_isAllowed 21 = .ok (.goto 4, 3) := by decide +kernel
theorem d_MD_isAllowed_24 : decode c_MD_isAllowed 24 = .ok (.iconst 0, 1) := by decide +kernel
theorem d_MD_isAllowed_25 : decode c_MD_isAllowed 25 = .ok (.istore 4, 2) := by decide +kernel
theorem d_MD_isAllowed_27 : decode c_MD_isAllowed 27 = .ok (.aload_n 0, 1) := by decide +kernel
theorem d_MD_isAllowed_28 : decode c_MD_isAllowed 28 = .ok (.getfield 27, 3) := by decide +kernel
theorem d_MD_isAllowed_31 : decode c_MD_isAllowed 31 = .ok (.iload_n 3, 1) := by decide +kernel
theorem d_MD_isAllowed_32 : decode c_MD_isAllowed 32 = .ok (.iaload, 1) := by decide +kernel
theorem d_MD_isAllowed_33 : decode c_MD_isAllowed 33 = .ok (.iconst 1, 1) := by decide +kernel
theorem d_MD_isAllowed_34 : decode c_MD_isAllowed 34 = .ok (.if_icmp .ne 8, 3) := by decide +kernel
theorem d_MD_isAllowed_37 : decode c_MD_isAllowed 37 = .ok (.iload 4, 2) := by decide +kernel
theorem d_MD_isAllowed_39 : decode c_MD_isAllowed 39 = .ok (.ifCond .eq 18, 3) := by decide +kernel
theorem d_MD_isAllowed_42 : decode c_MD_isAllowed 42 = .ok (.aload_n 0, 1) := by decide +kernel
theorem d_MD_isAllowed_43 : decode c_MD_isAllowed 43 = .ok (.getfield 27, 3) := by decide +kernel
theorem d_MD_isAllowed_46 : decode c_MD_isAllowed 46 = .ok (.iload_n 3, 1) := by decide +kernel
theorem d_MD_isAllowed_47 : decode c_MD_isAllowed 47 = .ok (.iaload, 1) := by decide +kernel
theorem d_MD_isAllowed_48 : decode c_MD_isAllowed 48 = .ok (.iconst 2, 1) := by decide +kernel
theorem d_MD_isAllowed_49 : decode c_MD_isAllowed 49 = .ok (.if_icmp .ne 10, 3) := by decide +kernel
theorem d_MD_isAllowed_52 : decode c_MD_isAllowed 52 = .ok (.iload 4, 2) := by decide +kernel
theorem d_MD_isAllowed_54 : decode c_MD_isAllowed 54 = .ok (.ifCond .eq 5, 3) := by decide +kernel
theorem d_MD_isAllowed_57 : decode c_MD_isAllowed 57 = .ok (.iconst 0, 1) := by decide +kernel
theorem d_MD_isAllowed_58 : decode c_MD_isAllowed 58 = .ok (.ireturn, 1) := by decide +kernel
theorem d_MD_isAllowed_59 : decode c_MD_isAllowed 59 = .ok (.iinc 3 1, 3) := by decide +kernel
theorem d_MD_isAllowed_62 : decode c_MD_isAllowed 62 = .ok (.goto (-60), 3) := by decide +kernel
theorem d_MD_isAllowed_65 : decode c_MD_isAllowed 65 = .ok (.iconst 1, 1) := by decide +kernel
theorem d_MD_isAllowed_66 : decode c_MD_isAllowed 66 = .ok (.ireturn, 1) := by decide +kernel
theorem d_MD_power_0 : decode c_MD_power 0 = .ok (.lconst 1, 1) := by decide +kernel
theorem d_MD_power_1 : decode c_MD_power 1 = .ok (.lstore 4, 2) := by decide +kernel
theorem d_MD_power_3 : decode c_MD_power 3 = .ok (.lload_n 0, 1) := by decide +kernel
theorem d_MD_power_4 : decode c_MD_power 4 = .ok (.lstore 6, 2) := by decide +kernel
theorem d_MD_power_6 : decode c_MD_power 6 = .ok (.lload_n 2, 1) := by decide +kernel
theorem d_MD_power_7 : decode c_MD_power 7 = .ok (.lstore 8, 2) := by decide +kernel
theorem d_MD_power_9 : decode c_MD_power 9 = .ok (.lload 8, 2) := by decide +kernel
theorem d_MD_power_11 : decode c_MD_power 11 = .ok (.lconst 0, 1) := by decide +kernel
theorem d_MD_power_12 : decode c_MD_power 12 = .ok (.lcmp, 1) := by decide +kernel
theorem d_MD_power_13 : decode c_MD_power 13 = .ok (.ifCond .le 47, 3) := by decide +kernel
theorem d_MD_power_16 : decode c_MD_power 16 = .ok (.lload 8, 2) := by decide +kernel
theorem d_MD_power_18 : decode c_MD_power 18 = .ok (.ldc2_w 138, 3) := by decide +kernel
theorem d_MD_power_21 : decode c_MD_power 21 = .ok (.lrem, 1) := by decide +kernel
theorem d_MD_power_22 : decode c_MD_power 22 = .ok (.lconst 1, 1) := by decide +kernel
theorem d_MD_power_23 : decode c_MD_power 23 = .ok (.lcmp, 1) := by decide +kernel
theorem d_MD_power_24 : decode c_MD_power 24 = .ok (.ifCond .ne 14, 3) := by decide +kernel
theorem d_MD_power_27 : decode c_MD_power 27 = .ok (.lload 4, 2) := by decide +kernel
theorem d_MD_power_29 : decode c_MD_power 29 = .ok (.lload 6, 2) := by decide +kernel
theorem d_MD_power_31 : decode c_MD_power 31 = .ok (.lmul, 1) := by decide +kernel
theorem d_MD_power_32 : decode c_MD_power 32 = .ok (.ldc2_w 140, 3) := by decide +kernel
theorem d_MD_power_35 : decode c_MD_power 35 = .ok (.lrem, 1) := by decide +kernel
theorem d_MD_power_36 : decode c_MD_power 36 = .ok (.lstore 4, 2) := by decide +kernel
theorem d_MD_power_38 : decode c_MD_power 38 = .ok (.lload 6, 2) := by decide +kernel
theorem d_MD_power_40 : decode c_MD_power 40 = .ok (.lload 6, 2) := by decide +kernel
theorem d_MD_power_42 : decode c_MD_power 42 = .ok (.lmul, 1) := by decide +kernel
theorem d_MD_power_43 : decode c_MD_power 43 = .ok (.ldc2_w 140, 3) := by decide +kernel
theorem d_MD_power_46 : decode c_MD_power 46 = .ok (.lrem, 1) := by decide +kernel
theorem d_MD_power_47 : decode c_MD_power 47 = .ok (.lstore 6, 2) := by decide +kernel
theorem d_MD_power_49 : decode c_MD_power 49 = .ok (.lload 8, 2) := by decide +kernel
theorem d_MD_power_51 : decode c_MD_power 51 = .ok (.ldc2_w 138, 3) := by decide +kernel
theorem d_MD_power_54 : decode c_MD_power 54 = .ok (.ldiv, 1) := by decide +kernel
theorem d_MD_power_55 : decode c_MD_power 55 = .ok (.lstore 8, 2) := by decide +kernel
theorem d_MD_power_57 : decode c_MD_power 57 = .ok (.goto (-48), 3) := by decide +kernel
theorem d_MD_power_60 : decode c_MD_power 60 = .ok (.lload 4, 2) := by decide +kernel
theorem d_MD_power_62 : decode c_MD_power 62 = .ok (.lreturn, 1) := by decide +kernel
theorem d_MD_trees_0 : decode c_MD_trees 0 = .ok (.aload_n 0, 1) := by decide +kernel
theorem d_MD_trees_1 : decode c_MD_trees 1 = .ok (.invokevirtual 142, 3) := by decide +kernel
theorem d_MD_trees_4 : decode c_MD_trees 4 = .ok (.istore_n 1, 1) := by decide +kernel
theorem d_MD_trees_5 : decode c_MD_trees 5 = .ok (.iload_n 1, 1) := by decide +kernel
theorem d_MD_trees_6 : decode c_MD_trees 6 = .ok (.ifCond .ne 5, 3) := by decide +kernel
theorem d_MD_trees_9 : decode c_MD_trees 9 = .ok (.lconst 1, 1) := by decide +kernel
theorem d_MD_trees_10 : decode c_MD_trees 10 = .ok (.lreturn, 1) := by decide +kernel
theorem d_MD_trees_11 : decode c_MD_trees 11 = .ok (.iconst 0, 1) := by decide +kernel
theorem d_MD_trees_12 : decode c_MD_trees 12 = .ok (.istore_n 2, 1) := by decide +kernel
theorem d_MD_trees_13 : decode c_MD_trees 13 = .ok (.iload_n 2, 1) := by decide +kernel
theorem d_MD_trees_14 : decode c_MD_trees 14 = .ok (.bipush 25, 2) := by decide +kernel
theorem d_MD_trees_16 : decode c_MD_trees 16 = .ok (.if_icmp .ge 16, 3) := by decide +kernel
theorem d_MD_trees_19 : decode c_MD_trees 19 = .ok (.aload_n 0, 1) := by decide +kernel
theorem d_MD_trees_20 : decode c_MD_trees 20 = .ok (.getfield 56, 3) := by decide +kernel
theorem d_MD_trees_23 : decode c_MD_trees 23 = .ok (.iload_n 2, 1) := by decide +kernel
theorem d_MD_trees_24 : decode c_MD_trees 24 = .ok (.iload_n 2, 1) := by decide +kernel
theorem d_MD_trees_25 : decode c_MD_trees 25 = .ok (.iastore, 1) := by decide +kernel
theorem d_MD_trees_26 : decode c_MD_trees 26 = .ok (.iinc 2 1, 3) := by decide +kernel
theorem d_MD_trees_29 : decode c_MD_trees 29 = .ok (.goto (-16), 3) := by decide +kernel
theorem d_MD_trees_32 : decode c_MD_trees 32 = .ok (.iconst 0, 1) := by decide +kernel
theorem d_MD_trees_33 : decode c_MD_trees 33 = .ok (.istore_n 2, 1) := by decide +kernel
theorem d_MD_trees_34 : decode c_MD_trees 34 = .ok (.iload_n 2, 1) := by decide +kernel
theorem d_MD_trees_35 : decode c_MD_trees 35 = .ok (.aload_n 0, 1) := by decide +kernel
theorem d_MD_trees_36 : decode c_MD_trees 36 = .ok (.getfield 85, 3) := by decide +kernel
theorem d_MD_trees_39 : decode c_MD_trees 39 = .ok (.if_icmp .ge 97, 3) := by decide +kernel
theorem d_MD_trees_42 : decode c_MD_trees 42 = .ok (.aload_n 0, 1) := by decide +kernel
theorem d_MD_trees_43 : decode c_MD_trees 43 = .ok (.getfield 27, 3) := by decide +kernel
theorem d_MD_trees_46 : decode c_MD_trees 46 = .ok (.iload_n 2, 1) := by decide +kernel
theorem d_MD_trees_47 : decode c_MD_trees 47 = .ok (.iaload, 1) := by decide +kernel
theorem d_MD_trees_48 : decode c_MD_trees 48 = .ok (.iconst 1, 1) := by decide +kernel
theorem d_MD_trees_49 : decode c_MD_trees 49 = .ok (.if_icmp .eq 6, 3) := by decide +kernel
theorem d_MD_trees_52 : decode c_MD_trees 52 = .ok (.goto 78, 3) := by decide +kernel
theorem d_MD_trees_55 : decode c_MD_trees 55 = .ok (.aload_n 0, 1) := by decide +kernel
theorem d_MD_trees_56 : decode c_MD_trees 56 = .ok (.getfield 56, 3) := by decide +kernel
theorem d_MD_trees_59 : decode c_MD_trees 59 = .ok (.aload_n 0, 1) := by decide +kernel
theorem d_MD_trees_60 : decode c_MD_trees 60 = .ok (.getfield 23, 3) := by decide +kernel
theorem d_MD_trees_63 : decode c_MD_trees 63 = .ok (.iconst 2, 1) := by decide +kernel
theorem d_MD_trees_64 : decode c_MD_trees 64 = .ok (.iload_n 2, 1) := by decide +kernel
theorem d_MD_trees_65 : decode c_MD_trees 65 = .ok (.imul, 1) := by decide +kernel
theorem d_MD_trees_66 : decode c_MD_trees 66 = .ok (.iaload, 1) := by decide +kernel
theorem d_MD_trees_67 : decode c_MD_trees 67 = .ok (.iaload, 1) := by decide +kernel
theorem d_MD_trees_68 : decode c_MD_trees 68 = .ok (.istore_n 3, 1) := by decide +kernel
theorem d_MD_trees_69 : decode c_MD_trees 69 = .ok (.aload_n 0, 1) := by decide +kernel
theorem d_MD_trees_70 : decode c_MD_trees 70 = .ok (.getfield 56, 3) := by decide +kernel
theorem d_MD_trees_73 : decode c_MD_trees 73 = .ok (.aload_n 0, 1) := by decide +kernel
theorem d_MD_trees_74 : decode c_MD_trees 74 = .ok (.getfield 23, 3) := by decide +kernel
theorem d_MD_trees_77 : decode c_MD_trees 77 = .ok (.iconst 2, 1) := by decide +kernel
theorem d_MD_trees_78 : decode c_MD_trees 78 = .ok (.iload_n 2, 1) := by decide +kernel
theorem d_MD_trees_79 : decode c_MD_trees 79 = .ok (.imul, 1) := by decide +kernel
theorem d_MD_trees_80 : decode c_MD_trees 80 = .ok (.iconst 1, 1) := by decide +kernel
theorem d_MD_trees_81 : decode c_MD_trees 81 = .ok (.iadd, 1) := by decide +kernel
theorem d_MD_trees_82 : decode c_MD_trees 82 = .ok (.iaload, 1) := by decide +kernel
theorem d_MD_trees_83 : decode c_MD_trees 83 = .ok (.iaload, 1) := by decide +kernel
theorem d_MD_trees_84 : decode c_MD_trees 84 = .ok (.istore 4, 2) := by decide +kernel
theorem d_MD_trees_86 : decode c_MD_trees 86 = .ok (.iload_n 3, 1) := by decide +kernel
theorem d_MD_trees_87 : decode c_MD_trees 87 = .ok (.iload 4, 2) := by decide +kernel
theorem d_MD_trees_89 : decode c_MD_trees 89 = .ok (.if_icmp .ne 5, 3) := by decide +kernel
theorem d_MD_trees_92 : decode c_MD_trees 92 = .ok (.lconst 0, 1) := by decide +kernel
theorem d_MD_trees_93 : decode c_MD_trees 93 = .ok (.lreturn, 1) := by decide +kernel
theorem d_MD_trees_94 : decode c_MD_trees 94 = .ok (.iconst 0, 1) := by decide +kernel
theorem d_MD_trees_95 : decode c_MD_trees 95 = .ok (.istore 5, 2) := by decide +kernel
theorem d_MD_trees_97 : decode c_MD_trees 97 = .ok (.iload 5, 2) := by decide +kernel
theorem d_MD_trees_99 : decode c_MD_trees 99 = .ok (.bipush 25, 2) := by decide +kernel
theorem d_MD_trees_101 : decode c_MD_trees 101 = .ok (.if_icmp .ge 29, 3) := by decide +kernel
theorem d_MD_trees_104 : decode c_MD_trees 104 = .ok (.aload_n 0, 1) := by decide +kernel
theorem d_MD_trees_105 : decode c_MD_trees 105 = .ok (.getfield 56, 3) := by decide +kernel
theorem d_MD_trees_108 : decode c_MD_trees 108 = .ok (.iload 5, 2) := by decide +kernel
theorem d_MD_trees_110 : decode c_MD_trees 110 = .ok (.iaload, 1) := by decide +kernel
theorem d_MD_trees_111 : decode c_MD_trees 111 = .ok (.iload 4, 2) := by decide +kernel
theorem d_MD_trees_113 : decode c_MD_trees 113 = .ok (.if_icmp .ne 11, 3) := by decide +kernel
theorem d_MD_trees_116 : decode c_MD_trees 116 = .ok (.aload_n 0, 1) := by decide +kernel
theorem d_MD_trees_117 : decode c_MD_trees 117 = .ok (.getfield 56, 3) := by decide +kernel
theorem d_MD_trees_120 : decode c_MD_trees 120 = .ok (.iload 5, 2) := by decide +kernel
theorem d_MD_trees_122 : decode c_MD_trees 122 = .ok (.iload_n 3, 1) := by decide +kernel
theorem d_MD_trees_123 : decode c_MD_trees 123 = .ok (.iastore, 1) := by decide +kernel
theorem d_MD_trees_124 : decode c_MD_trees 124 = .ok (.iinc 5 1, 3) := by decide +kernel
theorem d_MD_trees_127 : decode c_MD_trees 127 = .ok (.goto (-30), 3) := by decide +kernel
theorem d_MD_trees_130 : decode c_MD_trees 130 = .ok (.iinc 2 1, 3) := by decide +kernel
theorem d_MD_trees_133 : decode c_MD_trees 133 = .ok (.goto (-99), 3) := by decide +kernel
theorem d_MD_trees_136 : decode c_MD_trees 136 = .ok (.iconst 0, 1) := by decide +kernel
theorem d_MD_trees_137 : decode c_MD_trees 137 = .ok (.istore_n 2, 1) := by decide +kernel
theorem d_MD_trees_138 : decode c_MD_trees 138 = .ok (.iload_n 2, 1) := by decide +kernel
theorem d_MD_trees_139 : decode c_MD_trees 139 = .ok (.sipush 625, 3) := by decide +kernel
theorem d_MD_trees_142 : decode c_MD_trees 142 = .ok (.if_icmp .ge 16, 3) := by decide +kernel
theorem d_MD_trees_145 : decode c_MD_trees 145 = .ok (.aload_n 0, 1) := by decide +kernel
theorem d_MD_trees_146 : decode c_MD_trees 146 = .ok (.getfield 59, 3) := by decide +kernel
theorem d_MD_trees_149 : decode c_MD_trees 149 = .ok (.iload_n 2, 1) := by decide +kernel
theorem d_MD_trees_150 : decode c_MD_trees 150 = .ok (.lconst 0, 1) := by decide +kernel
theorem d_MD_trees_151 : decode c_MD_trees 151 = .ok (.lastore, 1) := by decide +kernel
theorem d_MD_trees_152 : decode c_MD_trees 152 = .ok (.iinc 2 1, 3) := by decide +kernel
theorem d_MD_trees_155 : decode c_MD_trees 155 = .ok (.goto (-17), 3) := by decide +kernel
theorem d_MD_trees_158 : decode c_MD_trees 158 = .ok (.iconst 0, 1) := by decide +kernel
theorem d_MD_trees_159 : decode c_MD_trees 159 = .ok (.istore_n 2, 1) := by decide +kernel
theorem d_MD_trees_160 : decode c_MD_trees 160 = .ok (.iload_n 2, 1) := by decide +kernel
theorem d_MD_trees_161 : decode c_MD_trees 161 = .ok (.aload_n 0, 1) := by decide +kernel
theorem d_MD_trees_162 : decode c_MD_trees 162 = .ok (.getfield 85, 3) := by decide +kernel
theorem d_MD_trees_165 : decode c_MD_trees 165 = .ok (.if_icmp .ge 126, 3) := by decide +kernel
theorem d_MD_trees_168 : decode c_MD_trees 168 = .ok (.aload_n 0, 1) := by decide +kernel
theorem d_MD_trees_169 : decode c_MD_trees 169 = .ok (.getfield 56, 3) := by decide +kernel
theorem d_MD_trees_172 : decode c_MD_trees 172 = .ok (.aload_n 0, 1) := by decide +kernel
theorem d_MD_trees_173 : decode c_MD_trees 173 = .ok (.getfield 23, 3) := by decide +kernel
theorem d_MD_trees_176 : decode c_MD_trees 176 = .ok (.iconst 2, 1) := by decide +kernel
theorem d_MD_trees_177 : decode c_MD_trees 177 = .ok (.iload_n 2, 1) := by decide +kernel
theorem d_MD_trees_178 : decode c_MD_trees 178 = .ok (.imul, 1) := by decide +kernel
theorem d_MD_trees_179 : decode c_MD_trees 179 = .ok (.iaload, 1) := by decide +kernel
theorem d_MD_trees_180 : decode c_MD_trees 180 = .ok (.iaload, 1) := by decide +kernel
theorem d_MD_trees_181 : decode c_MD_trees 181 = .ok (.istore_n 3, 1) := by decide +kernel
theorem d_MD_trees_182 : decode c_MD_trees 182 = .ok (.aload_n 0, 1) := by decide +kernel
theorem d_MD_trees_183 : decode c_MD_trees 183 = .ok (.getfield 56, 3) := by decide +kernel
theorem d_MD_trees_186 : decode c_MD_trees 186 = .ok (.aload_n 0, 1) := by decide +kernel
theorem d_MD_trees_187 : decode c_MD_trees 187 = .ok (.getfield 23, 3) := by decide +kernel
theorem d_MD_trees_190 : decode c_MD_trees 190 = .ok (.iconst 2, 1) := by decide +kernel
theorem d_MD_trees_191 : decode c_MD_trees 191 = .ok (.iload_n 2, 1) := by decide +kernel
theorem d_MD_trees_192 : decode c_MD_trees 192 = .ok (.imul, 1) := by decide +kernel
theorem d_MD_trees_193 : decode c_MD_trees 193 = .ok (.iconst 1, 1) := by decide +kernel
theorem d_MD_trees_194 : decode c_MD_trees 194 = .ok (.iadd, 1) := by decide +kernel
theorem d_MD_trees_195 : decode c_MD_trees 195 = .ok (.iaload, 1) := by decide +kernel
theorem d_MD_trees_196 : decode c_MD_trees 196 = .ok (.iaload, 1) := by decide +kernel
theorem d_MD_trees_197 : decode c_MD_trees 197 = .ok (.istore 4, 2) := by decide +kernel
theorem d_MD_trees_199 : decode c_MD_trees 199 = .ok (.aload_n 0, 1) := by decide +kernel
theorem d_MD_trees_200 : decode c_MD_trees 200 = .ok (.getfield 27, 3) := by decide +kernel
theorem d_MD_trees_203 : decode c_MD_trees 203 = .ok (.iload_n 2, 1) := by decide +kernel
theorem d_MD_trees_204 : decode c_MD_trees 204 = .ok (.iaload, 1) := by decide +kernel
theorem d_MD_trees_205 : decode c_MD_trees 205 = .ok (.ifCond .ne 80, 3) := by decide +kernel
theorem d_MD_trees_208 : decode c_MD_trees 208 = .ok (.iload_n 3, 1) := by decide +kernel
theorem d_MD_trees_209 : decode c_MD_trees 209 = .ok (.iload 4, 2) := by decide +kernel
theorem d_MD_trees_211 : decode c_MD_trees 211 = .ok (.if_icmp .ne 6, 3) := by decide +kernel
theorem d_MD_trees_214 : decode c_MD_trees 214 = .ok (.goto 71, 3) := by decide +kernel
theorem d_MD_trees_217 : decode c_MD_trees 217 = .ok (.aload_n 0, 1) := by decide +kernel
theorem d_MD_trees_218 : decode c_MD_trees 218 = .ok (.getfield 59, 3) := by decide +kernel
theorem d_MD_trees_221 : decode c_MD_trees 221 = .ok (.bipush 25, 2) := by decide +kernel
theorem d_MD_trees_223 : decode c_MD_trees 223 = .ok (.iload_n 3, 1) := by decide +kernel
theorem d_MD_trees_224 : decode c_MD_trees 224 = .ok (.imul, 1) := by decide +kernel
theorem d_MD_trees_225 : decode c_MD_trees 225 = .ok (.iload_n 3, 1) := by decide +kernel
theorem d_MD_trees_226 : decode c_MD_trees 226 = .ok (.iadd, 1) := by decide +kernel
theorem d_MD_trees_227 : decode c_MD_trees 227 = .ok (.dup2, 1) := by decide +kernel
theorem d_MD_trees_228 : decode c_MD_trees 228 = .ok (.laload, 1) := by decide +kernel
theorem d_MD_trees_229 : decode c_MD_trees 229 = .ok (.lconst 1, 1) := by decide +kernel
theorem d_MD_trees_230 : decode c_MD_trees 230 = .ok (.ladd, 1) := by decide +kernel
theorem d_MD_trees_231 : decode c_MD_trees 231 = .ok (.lastore, 1) := by decide +kernel
theorem d_MD_trees_232 : decode c_MD_trees 232 = .ok (.aload_n 0, 1) := by decide +kernel
theorem d_MD_trees_233 : decode c_MD_trees 233 = .ok (.getfield 59, 3) := by decide +kernel
theorem d_MD_trees_236 : decode c_MD_trees 236 = .ok (.bipush 25, 2) := by decide +kernel
theorem d_MD_trees_238 : decode c_MD_trees 238 = .ok (.iload 4, 2) := by decide +kernel
theorem d_MD_trees_240 : decode c_MD_trees 240 = .ok (.imul, 1) := by decide +kernel
theorem d_MD_trees_241 : decode c_MD_trees 241 = .ok (.iload 4, 2) := by decide +kernel
theorem d_MD_trees_243 : decode c_MD_trees 243 = .ok (.iadd, 1) := by decide +kernel
theorem d_MD_trees_244 : decode c_MD_trees 244 = .ok (.dup2, 1) := by decide +kernel
theorem d_MD_trees_245 : decode c_MD_trees 245 = .ok (.laload, 1) := by decide +kernel
theorem d_MD_trees_246 : decode c_MD_trees 246 = .ok (.lconst 1, 1) := by decide +kernel
theorem d_MD_trees_247 : decode c_MD_trees 247 = .ok (.ladd, 1) := by decide +kernel
theorem d_MD_trees_248 : decode c_MD_trees 248 = .ok (.lastore, 1) := by decide +kernel
theorem d_MD_trees_249 : decode c_MD_trees 249 = .ok (.aload_n 0, 1) := by decide +kernel
theorem d_MD_trees_250 : decode c_MD_trees 250 = .ok (.getfield 59, 3) := by decide +kernel
theorem d_MD_trees_253 : decode c_MD_trees 253 = .ok (.bipush 25, 2) := by decide +kernel
theorem d_MD_trees_255 : decode c_MD_trees 255 = .ok (.iload_n 3, 1) := by decide +kernel
theorem d_MD_trees_256 : decode c_MD_trees 256 = .ok (.imul, 1) := by decide +kernel
theorem d_MD_trees_257 : decode c_MD_trees 257 = .ok (.iload 4, 2) := by decide +kernel
theorem d_MD_trees_259 : decode c_MD_trees 259 = .ok (.iadd, 1) := by decide +kernel
theorem d_MD_trees_260 : decode c_MD_trees 260 = .ok (.dup2, 1) := by decide +kernel
theorem d_MD_trees_261 : decode c_MD_trees 261 = .ok (.laload, 1) := by decide +kernel
theorem d_MD_trees_262 : decode c_MD_trees 262 = .ok (.ldc2_w 145, 3) := by decide +kernel
theorem d_MD_trees_265 : decode c_MD_trees 265 = .ok (.ladd, 1) := by decide +kernel
theorem d_MD_trees_266 : decode c_MD_trees 266 = .ok (.lastore, 1) := by decide +kernel
theorem d_MD_trees_267 : decode c_MD_trees 267 = .ok (.aload_n 0, 1) := by decide +kernel
theorem d_MD_trees_268 : decode c_MD_trees 268 = .ok (.getfield 59, 3) := by decide +kernel
theorem d_MD_trees_271 : decode c_MD_trees 271 = .ok (.bipush 25, 2) := by decide +kernel
theorem d_MD_trees_273 : decode c_MD_trees 273 = .ok (.iload 4, 2) := by decide +kernel
theorem d_MD_trees_275 : decode c_MD_trees 275 = .ok (.imul, 1) := by decide +kernel
theorem d_MD_trees_276 : decode c_MD_trees 276 = .ok (.iload_n 3, 1) := by decide +kernel
theorem d_MD_trees_277 : decode c_MD_trees 277 = .ok (.iadd, 1) := by decide +kernel
theorem d_MD_trees_278 : decode c_MD_trees 278 = .ok (.dup2, 1) := by decide +kernel
theorem d_MD_trees_279 : decode c_MD_trees 279 = .ok (.laload, 1) := by decide +kernel
theorem d_MD_trees_280 : decode c_MD_trees 280 = .ok (.ldc2_w 145, 3) := by decide +kernel
theorem d_MD_trees_283 : decode c_MD_trees 283 = .ok (.ladd, 1) := by decide +kernel
theorem d_MD_trees_284 : decode c_MD_trees 284 = .ok (.lastore, 1) := by decide +kernel
theorem d_MD_trees_285 : decode c_MD_trees 285 = .ok (.iinc 2 1, 3) := by decide +kernel
theorem d_MD_trees_288 : decode c_MD_trees 288 = .ok (.goto (-128), 3) := by decide +kernel
theorem d_MD_trees_291 : decode c_MD_trees 291 = .ok (.iconst 0, 1) := by decide +kernel
theorem d_MD_trees_292 : decode c_MD_trees 292 = .ok (.istore_n 2, 1) := by decide +kernel
theorem d_MD_trees_293 : decode c_MD_trees 293 = .ok (.iconst 0, 1) := by decide +kernel
theorem d_MD_trees_294 : decode c_MD_trees 294 = .ok (.istore_n 3, 1) := by decide +kernel
theorem d_MD_trees_295 : decode c_MD_trees 295 = .ok (.iload_n 3, 1) := by decide +kernel
theorem d_MD_trees_296 : decode c_MD_trees 296 = .ok (.bipush 25, 2) := by decide +kernel
theorem d_MD_trees_298 : decode c_MD_trees 298 = .ok (.if_icmp .ge 124, 3) := by decide +kernel
theorem d_MD_trees_301 : decode c_MD_trees 301 = .ok (.iload_n 3, 1) := by decide +kernel
theorem d_MD_trees_302 : decode c_MD_trees 302 = .ok (.aload_n 0, 1) := by decide +kernel
theorem d_MD_trees_303 : decode c_MD_trees 303 = .ok (.invokevirtual 81, 3) := by decide +kernel
theorem d_MD_trees_306 : decode c_MD_trees 306 = .ok (.if_icmp .ge 26, 3) := by decide +kernel
theorem d_MD_trees_309 : decode c_MD_trees 309 = .ok (.aload_n 0, 1) := by decide +kernel
theorem d_MD_trees_310 : decode c_MD_trees 310 = .ok (.getfield 7, 3) := by decide +kernel
theorem d_MD_trees_313 : decode c_MD_trees 313 = .ok (.iload_n 3, 1) := by decide +kernel
theorem d_MD_trees_314 : decode c_MD_trees 314 = .ok (.baload, 1) := by decide +kernel
theorem d_MD_trees_315 : decode c_MD_trees 315 = .ok (.ifCond .ne 17, 3) := by decide +kernel
theorem d_MD_trees_318 : decode c_MD_trees 318 = .ok (.aload_n 0, 1) := by decide +kernel
theorem d_MD_trees_319 : decode c_MD_trees 319 = .ok (.getfield 56, 3) := by decide +kernel
theorem d_MD_trees_322 : decode c_MD_trees 322 = .ok (.iload_n 3, 1) := by decide +kernel
theorem d_MD_trees_323 : decode c_MD_trees 323 = .ok (.iaload, 1) := by decide +kernel
theorem d_MD_trees_324 : decode c_MD_trees 324 = .ok (.iload_n 3, 1) := by decide +kernel
theorem d_MD_trees_325 : decode c_MD_trees 325 = .ok (.if_icmp .ne 7, 3) := by decide +kernel
theorem d_MD_trees_328 : decode c_MD_trees 328 = .ok (.iconst 1, 1) := by decide +kernel
theorem d_MD_trees_329 : decode c_MD_trees 329 = .ok (.goto 4, 3) := by decide +kernel
theorem d_MD_trees_332 : decode c_MD_trees 332 = .ok (.iconst 0, 1) := by decide +kernel
theorem d_MD_trees_333 : decode c_MD_trees 333 = .ok (.istore 4, 2) := by decide +kernel
theorem d_MD_trees_335 : decode c_MD_trees 335 = .ok (.iload 4, 2) := by decide +kernel
theorem d_MD_trees_337 : decode c_MD_trees 337 = .ok (.ifCond .eq 10, 3) := by decide +kernel
theorem d_MD_trees_340 : decode c_MD_trees 340 = .ok (.iload_n 2, 1) := by decide +kernel
theorem d_MD_trees_341 : decode c_MD_trees 341 = .ok (.ifCond .eq 6, 3) := by decide +kernel
theorem d_MD_trees_344 : decode c_MD_trees 344 = .ok (.goto 72, 3) := by decide +kernel
theorem d_MD_trees_347 : decode c_MD_trees 347 = .ok (.iload_n 2, 1) := by decide +kernel
theorem d_MD_trees_348 : decode c_MD_trees 348 = .ok (.ifCond .ne 8, 3) := by decide +kernel
theorem d_MD_trees_351 : decode c_MD_trees 351 = .ok (.iload 4, 2) := by decide +kernel
theorem d_MD_trees_353 : decode c_MD_trees 353 = .ok (.ifCond .eq 7, 3) := by decide +kernel
theorem d_MD_trees_356 : decode c_MD_trees 356 = .ok (.iconst 1, 1) := by decide +kernel
theorem d_MD_trees_357 : decode c_MD_trees 357 = .ok (.goto 4, 3) := by decide +kernel
theorem d_MD_trees_360 : decode c_MD_trees 360 = .ok (.iconst 0, 1) := by decide +kernel
theorem d_MD_trees_361 : decode c_MD_trees 361 = .ok (.istore_n 2, 1) := by decide +kernel
theorem d_MD_trees_362 : decode c_MD_trees 362 = .ok (.iconst 0, 1) := by decide +kernel
theorem d_MD_trees_363 : decode c_MD_trees 363 = .ok (.istore 5, 2) := by decide +kernel
theorem d_MD_trees_365 : decode c_MD_trees 365 = .ok (.iload 5, 2) := by decide +kernel
theorem d_MD_trees_367 : decode c_MD_trees 367 = .ok (.bipush 25, 2) := by decide +kernel
theorem d_MD_trees_369 : decode c_MD_trees 369 = .ok (.if_icmp .ge 35, 3) := by decide +kernel
theorem d_MD_trees_372 : decode c_MD_trees 372 = .ok (.aload_n 0, 1) := by decide +kernel
theorem d_MD_trees_373 : decode c_MD_trees 373 = .ok (.getfield 59, 3) := by decide +kernel
theorem d_MD_trees_376 : decode c_MD_trees 376 = .ok (.bipush 25, 2) := by decide +kernel
theorem d_MD_trees_378 : decode c_MD_trees 378 = .ok (.iload_n 3, 1) := by decide +kernel
theorem d_MD_trees_379 : decode c_MD_trees 379 = .ok (.imul, 1) := by decide +kernel
theorem d_MD_trees_380 : decode c_MD_trees 380 = .ok (.iload 5, 2) := by decide +kernel
theorem d_MD_trees_382 : decode c_MD_trees 382 = .ok (.iadd, 1) := by decide +kernel
theorem d_MD_trees_383 : decode c_MD_trees 383 = .ok (.lconst 0, 1) := by decide +kernel
theorem d_MD_trees_384 : decode c_MD_trees 384 = .ok (.lastore, 1) := by decide +kernel
theorem d_MD_trees_385 : decode c_MD_trees 385 = .ok (.aload_n 0, 1) := by decide +kernel
theorem d_MD_trees_386 : decode c_MD_trees 386 = .ok (.getfield 59, 3) := by decide +kernel
theorem d_MD_trees_389 : decode c_MD_trees 389 = .ok (.bipush 25, 2) := by decide +kernel
theorem d_MD_trees_391 : decode c_MD_trees 391 = .ok (.iload 5, 2) := by decide +kernel
theorem d_MD_trees_393 : decode c_MD_trees 393 = .ok (.imul, 1) := by decide +kernel
theorem d_MD_trees_394 : decode c_MD_trees 394 = .ok (.iload_n 3, 1) := by decide +kernel
theorem d_MD_trees_395 : decode c_MD_trees 395 = .ok (.iadd, 1) := by decide +kernel
theorem d_MD_trees_396 : decode c_MD_trees 396 = .ok (.lconst 0, 1) := by decide +kernel
theorem d_MD_trees_397 : decode c_MD_trees 397 = .ok (.lastore, 1) := by decide +kernel
theorem d_MD_trees_398 : decode c_MD_trees 398 = .ok (.iinc 5 1, 3) := by decide +kernel
theorem d_MD_trees_401 : decode c_MD_trees 401 = .ok (.goto (-36), 3) := by decide +kernel
theorem d_MD_trees_404 : decode c_MD_trees 404 = .ok (.aload_n 0, 1) := by decide +kernel
theorem d_MD_trees_405 : decode c_MD_trees 405 = .ok (.getfield 59, 3) := by decide +kernel
theorem d_MD_trees_408 : decode c_MD_trees 408 = .ok (.bipush 25, 2) := by decide +kernel
theorem d_MD_trees_410 : decode c_MD_trees 410 = .ok (.iload_n 3, 1) := by decide +kernel
theorem d_MD_trees_411 : decode c_MD_trees 411 = .ok (.imul, 1) := by decide +kernel
theorem d_MD_trees_412 : decode c_MD_trees 412 = .ok (.iload_n 3, 1) := by decide +kernel
theorem d_MD_trees_413 : decode c_MD_trees 413 = .ok (.iadd, 1) := by decide +kernel
theorem d_MD_trees_414 : decode c_MD_trees 414 = .ok (.lconst 1, 1) := by decide +kernel
theorem d_MD_trees_415 : decode c_MD_trees 415 = .ok (.lastore, 1) := by decide +kernel
theorem d_MD_trees_416 : decode c_MD_trees 416 = .ok (.iinc 3 1, 3) := by decide +kernel
theorem d_MD_trees_419 : decode c_MD_trees 419 = .ok (.goto (-124), 3) := by decide +kernel
theorem d_MD_trees_422 : decode c_MD_trees 422 = .ok (.aload_n 0, 1) := by decide +kernel
theorem d_MD_trees_423 : decode c_MD_trees 423 = .ok (.invokevirtual 147, 3) := by decide +kernel
theorem d_MD_trees_426 : decode c_MD_trees 426 = .ok (.lreturn, 1) := by decide +kernel
