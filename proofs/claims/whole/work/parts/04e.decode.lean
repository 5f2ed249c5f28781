theorem d_MD_addEdge_0 : decode c_MD_addEdge 0 = .ok (.aload_n 0, 1) := by decide +kernel
theorem d_MD_addEdge_1 : decode c_MD_addEdge 1 = .ok (.getfield 7, 3) := by decide +kernel
theorem d_MD_addEdge_4 : decode c_MD_addEdge 4 = .ok (.iload_n 1, 1) := by decide +kernel
theorem d_MD_addEdge_5 : decode c_MD_addEdge 5 = .ok (.baload, 1) := by decide +kernel
theorem d_MD_addEdge_6 : decode c_MD_addEdge 6 = .ok (.ifCond .ne 21, 3) := by decide +kernel
theorem d_MD_addEdge_9 : decode c_MD_addEdge 9 = .ok (.aload_n 0, 1) := by decide +kernel
theorem d_MD_addEdge_10 : decode c_MD_addEdge 10 = .ok (.getfield 7, 3) := by decide +kernel
theorem d_MD_addEdge_13 : decode c_MD_addEdge 13 = .ok (.iload_n 2, 1) := by decide +kernel
theorem d_MD_addEdge_14 : decode c_MD_addEdge 14 = .ok (.baload, 1) := by decide +kernel
theorem d_MD_addEdge_15 : decode c_MD_addEdge 15 = .ok (.ifCond .ne 12, 3) := by decide +kernel
theorem d_MD_addEdge_18 : decode c_MD_addEdge 18 = .ok (.aload_n 0, 1) := by decide +kernel
theorem d_MD_addEdge_19 : decode c_MD_addEdge 19 = .ok (.getfield 13, 3) := by decide +kernel
theorem d_MD_addEdge_22 : decode c_MD_addEdge 22 = .ok (.iload_n 3, 1) := by decide +kernel
theorem d_MD_addEdge_23 : decode c_MD_addEdge 23 = .ok (.baload, 1) := by decide +kernel
theorem d_MD_addEdge_24 : decode c_MD_addEdge 24 = .ok (.ifCond .eq 4, 3) := by decide +kernel
theorem d_MD_addEdge_27 : decode c_MD_addEdge 27 = .ok (.return_, 1) := by decide +kernel
theorem d_MD_addEdge_28 : decode c_MD_addEdge 28 = .ok (.aload_n 0, 1) := by decide +kernel
theorem d_MD_addEdge_29 : decode c_MD_addEdge 29 = .ok (.getfield 23, 3) := by decide +kernel
theorem d_MD_addEdge_32 : decode c_MD_addEdge 32 = .ok (.iconst 2, 1) := by decide +kernel
theorem d_MD_addEdge_33 : decode c_MD_addEdge 33 = .ok (.aload_n 0, 1) := by decide +kernel
theorem d_MD_addEdge_34 : decode c_MD_addEdge 34 = .ok (.getfield 85, 3) := by decide +kernel
theorem d_MD_addEdge_37 : decode c_MD_addEdge 37 = .ok (.imul, 1) := by decide +kernel
theorem d_MD_addEdge_38 : decode c_MD_addEdge 38 = .ok (.iload_n 1, 1) := by decide +kernel
theorem d_MD_addEdge_39 : decode c_MD_addEdge 39 = .ok (.iastore, 1) := by decide +kernel
theorem d_MD_addEdge_40 : decode c_MD_addEdge 40 = .ok (.aload_n 0, 1) := by decide +kernel
theorem d_MD_addEdge_41 : decode c_MD_addEdge 41 = .ok (.getfield 23, 3) := by decide +kernel
theorem d_MD_addEdge_44 : decode c_MD_addEdge 44 = .ok (.iconst 2, 1) := by decide +kernel
theorem d_MD_addEdge_45 : decode c_MD_addEdge 45 = .ok (.aload_n 0, 1) := by decide +kernel
theorem d_MD_addEdge_46 : decode c_MD_addEdge 46 = .ok (.getfield 85, 3) := by decide +kernel
theorem d_MD_addEdge_49 : decode c_MD_addEdge 49 = .ok (.imul, 1) := by decide +kernel
theorem d_MD_addEdge_50 : decode c_MD_addEdge 50 = .ok (.iconst 1, 1) := by decide +kernel
theorem d_MD_addEdge_51 : decode c_MD_addEdge 51 = .ok (.iadd, 1) := by decide +kernel
theorem d_MD_addEdge_52 : decode c_MD_addEdge 52 = .ok (.iload_n 2, 1) := by decide +kernel
theorem d_MD_addEdge_53 : decode c_MD_addEdge 53 = .ok (.iastore, 1) := by decide +kernel
theorem d_MD_addEdge_54 : decode c_MD_addEdge 54 = .ok (.aload_n 0, 1) := by decide +kernel
theorem d_MD_addEdge_55 : decode c_MD_addEdge 55 = .ok (.dup, 1) := by decide +kernel
theorem d_MD_addEdge_56 : decode c_MD_addEdge 56 = .ok (.getfield 85, 3) := by decide +kernel
theorem d_MD_addEdge_59 : decode c_MD_addEdge 59 = .ok (.iconst 1, 1) := by decide +kernel
theorem d_MD_addEdge_60 : decode c_MD_addEdge 60 = .ok (.iadd, 1) := by decide +kernel
theorem d_MD_addEdge_61 : decode c_MD_addEdge 61 = .ok (.putfield 85, 3) := by decide +kernel
theorem d_MD_addEdge_64 : decode c_MD_addEdge 64 = .ok (.return_, 1) := by decide +kernel
theorem d_MD_hole_0 : decode c_MD_hole 0 = .ok (.aload_n 0, 1) := by decide +kernel
theorem d_MD_hole_1 : decode c_MD_hole 1 = .ok (.iconst 0, 1) := by decide +kernel
theorem d_MD_hole_2 : decode c_MD_hole 2 = .ok (.putfield 78, 3) := by decide +kernel
theorem d_MD_hole_5 : decode c_MD_hole 5 = .ok (.iload_n 1, 1) := by decide +kernel
theorem d_MD_hole_6 : decode c_MD_hole 6 = .ok (.ifCond .lt 23, 3) := by decide +kernel
theorem d_MD_hole_9 : decode c_MD_hole 9 = .ok (.iload_n 1, 1) := by decide +kernel
theorem d_MD_hole_10 : decode c_MD_hole 10 = .ok (.aload_n 0, 1) := by decide +kernel
theorem d_MD_hole_11 : decode c_MD_hole 11 = .ok (.getfield 69, 3) := by decide +kernel
theorem d_MD_hole_14 : decode c_MD_hole 14 = .ok (.if_icmp .ge 15, 3) := by decide +kernel
theorem d_MD_hole_17 : decode c_MD_hole 17 = .ok (.iload_n 2, 1) := by decide +kernel
theorem d_MD_hole_18 : decode c_MD_hole 18 = .ok (.ifCond .lt 11, 3) := by decide +kernel
theorem d_MD_hole_21 : decode c_MD_hole 21 = .ok (.iload_n 2, 1) := by decide +kernel
theorem d_MD_hole_22 : decode c_MD_hole 22 = .ok (.aload_n 0, 1) := by decide +kernel
theorem d_MD_hole_23 : decode c_MD_hole 23 = .ok (.getfield 72, 3) := by decide +kernel
theorem d_MD_hole_26 : decode c_MD_hole 26 = .ok (.if_icmp .lt 5, 3) := by decide +kernel
theorem d_MD_hole_29 : decode c_MD_hole 29 = .ok (.iconst 0, 1) := by decide +kernel
theorem d_MD_hole_30 : decode c_MD_hole 30 = .ok (.ireturn, 1) := by decide +kernel
theorem d_MD_hole_31 : decode c_MD_hole 31 = .ok (.aload_n 0, 1) := by decide +kernel
theorem d_MD_hole_32 : decode c_MD_hole 32 = .ok (.getfield 69, 3) := by decide +kernel
theorem d_MD_hole_35 : decode c_MD_hole 35 = .ok (.iload_n 2, 1) := by decide +kernel
theorem d_MD_hole_36 : decode c_MD_hole 36 = .ok (.imul, 1) := by decide +kernel
theorem d_MD_hole_37 : decode c_MD_hole 37 = .ok (.iload_n 1, 1) := by decide +kernel
theorem d_MD_hole_38 : decode c_MD_hole 38 = .ok (.iadd, 1) := by decide +kernel
theorem d_MD_hole_39 : decode c_MD_hole 39 = .ok (.istore_n 3, 1) := by decide +kernel
theorem d_MD_hole_40 : decode c_MD_hole 40 = .ok (.aload_n 0, 1) := by decide +kernel
theorem d_MD_hole_41 : decode c_MD_hole 41 = .ok (.getfield 7, 3) := by decide +kernel
theorem d_MD_hole_44 : decode c_MD_hole 44 = .ok (.iload_n 3, 1) := by decide +kernel
theorem d_MD_hole_45 : decode c_MD_hole 45 = .ok (.aload_n 0, 1) := by decide +kernel
theorem d_MD_hole_46 : decode c_MD_hole 46 = .ok (.getfield 7, 3) := by decide +kernel
theorem d_MD_hole_49 : decode c_MD_hole 49 = .ok (.iload_n 3, 1) := by decide +kernel
theorem d_MD_hole_50 : decode c_MD_hole 50 = .ok (.baload, 1) := by decide +kernel
theorem d_MD_hole_51 : decode c_MD_hole 51 = .ok (.ifCond .ne 7, 3) := by decide +kernel
theorem d_MD_hole_54 : decode c_MD_hole 54 = .ok (.iconst 1, 1) := by decide +kernel
theorem d_MD_hole_55 : decode c_MD_hole 55 = .ok (.goto 4, 3) := by decide +kernel
theorem d_MD_hole_58 : decode c_MD_hole 58 = .ok (.iconst 0, 1) := by decide +kernel
theorem d_MD_hole_59 : decode c_MD_hole 59 = .ok (.bastore, 1) := by decide +kernel
theorem d_MD_hole_60 : decode c_MD_hole 60 = .ok (.iconst 0, 1) := by decide +kernel
theorem d_MD_hole_61 : decode c_MD_hole 61 = .ok (.istore 4, 2) := by decide +kernel
theorem d_MD_hole_63 : decode c_MD_hole 63 = .ok (.iload 4, 2) := by decide +kernel
theorem d_MD_hole_65 : decode c_MD_hole 65 = .ok (.bipush 50, 2) := by decide +kernel
theorem d_MD_hole_67 : decode c_MD_hole 67 = .ok (.if_icmp .ge 17, 3) := by decide +kernel
theorem d_MD_hole_70 : decode c_MD_hole 70 = .ok (.aload_n 0, 1) := by decide +kernel
theorem d_MD_hole_71 : decode c_MD_hole 71 = .ok (.getfield 13, 3) := by decide +kernel
theorem d_MD_hole_74 : decode c_MD_hole 74 = .ok (.iload 4, 2) := by decide +kernel
theorem d_MD_hole_76 : decode c_MD_hole 76 = .ok (.iconst 0, 1) := by decide +kernel
theorem d_MD_hole_77 : decode c_MD_hole 77 = .ok (.bastore, 1) := by decide +kernel
theorem d_MD_hole_78 : decode c_MD_hole 78 = .ok (.iinc 4 1, 3) := by decide +kernel
theorem d_MD_hole_81 : decode c_MD_hole 81 = .ok (.goto (-18), 3) := by decide +kernel
theorem d_MD_hole_84 : decode c_MD_hole 84 = .ok (.aload_n 0, 1) := by decide +kernel
theorem d_MD_hole_85 : decode c_MD_hole 85 = .ok (.invokevirtual 75, 3) := by decide +kernel
theorem d_MD_hole_88 : decode c_MD_hole 88 = .ok (.iconst 1, 1) := by decide +kernel
theorem d_MD_hole_89 : decode c_MD_hole 89 = .ok (.ireturn, 1) := by decide +kernel
theorem d_MD_edge_0 : decode c_MD_edge 0 = .ok (.aload_n 0, 1) := by decide +kernel
theorem d_MD_edge_1 : decode c_MD_edge 1 = .ok (.iconst 0, 1) := by decide +kernel
theorem d_MD_edge_2 : decode c_MD_edge 2 = .ok (.putfield 78, 3) := by decide +kernel
theorem d_MD_edge_5 : decode c_MD_edge 5 = .ok (.aload_n 0, 1) := by decide +kernel
theorem d_MD_edge_6 : decode c_MD_edge 6 = .ok (.iload_n 1, 1) := by decide +kernel
theorem d_MD_edge_7 : decode c_MD_edge 7 = .ok (.invokevirtual 99, 3) := by decide +kernel
theorem d_MD_edge_10 : decode c_MD_edge 10 = .ok (.ifCond .eq 29, 3) := by decide +kernel
theorem d_MD_edge_13 : decode c_MD_edge 13 = .ok (.aload_n 0, 1) := by decide +kernel
theorem d_MD_edge_14 : decode c_MD_edge 14 = .ok (.iload_n 2, 1) := by decide +kernel
theorem d_MD_edge_15 : decode c_MD_edge 15 = .ok (.invokevirtual 99, 3) := by decide +kernel
theorem d_MD_edge_18 : decode c_MD_edge 18 = .ok (.ifCond .eq 21, 3) := by decide +kernel
theorem d_MD_edge_21 : decode c_MD_edge 21 = .ok (.aload_n 0, 1) := by decide +kernel
theorem d_MD_edge_22 : decode c_MD_edge 22 = .ok (.getfield 7, 3) := by decide +kernel
theorem d_MD_edge_25 : decode c_MD_edge 25 = .ok (.iload_n 1, 1) := by decide +kernel
theorem d_MD_edge_26 : decode c_MD_edge 26 = .ok (.baload, 1) := by decide +kernel
theorem d_MD_edge_27 : decode c_MD_edge 27 = .ok (.ifCond .ne 12, 3) := by decide +kernel
theorem d_MD_edge_30 : decode c_MD_edge 30 = .ok (.aload_n 0, 1) := by decide +kernel
theorem d_MD_edge_31 : decode c_MD_edge 31 = .ok (.getfield 7, 3) := by decide +kernel
theorem d_MD_edge_34 : decode c_MD_edge 34 = .ok (.iload_n 2, 1) := by decide +kernel
theorem d_MD_edge_35 : decode c_MD_edge 35 = .ok (.baload, 1) := by decide +kernel
theorem d_MD_edge_36 : decode c_MD_edge 36 = .ok (.ifCond .eq 5, 3) := by decide +kernel
theorem d_MD_edge_39 : decode c_MD_edge 39 = .ok (.iconst 0, 1) := by decide +kernel
theorem d_MD_edge_40 : decode c_MD_edge 40 = .ok (.ireturn, 1) := by decide +kernel
theorem d_MD_edge_41 : decode c_MD_edge 41 = .ok (.iload_n 1, 1) := by decide +kernel
theorem d_MD_edge_42 : decode c_MD_edge 42 = .ok (.iload_n 2, 1) := by decide +kernel
theorem d_MD_edge_43 : decode c_MD_edge 43 = .ok (.if_icmp .ge 7, 3) := by decide +kernel
theorem d_MD_edge_46 : decode c_MD_edge 46 = .ok (.iload_n 1, 1) := by decide +kernel
theorem d_MD_edge_47 : decode c_MD_edge 47 = .ok (.goto 4, 3) := by decide +kernel
theorem d_MD_edge_50 : decode c_MD_edge 50 = .ok (.iload_n 2, 1) := by decide +kernel
theorem d_MD_edge_51 : decode c_MD_edge 51 = .ok (.istore 4, 2) := by decide +kernel
theorem d_MD_edge_53 : decode c_MD_edge 53 = .ok (.iload_n 1, 1) := by decide +kernel
theorem d_MD_edge_54 : decode c_MD_edge 54 = .ok (.iload_n 2, 1) := by decide +kernel
theorem d_MD_edge_55 : decode c_MD_edge 55 = .ok (.if_icmp .ge 7, 3) := by decide +kernel
theorem d_MD_edge_58 : decode c_MD_edge 58 = .ok (.iload_n 2, 1) := by decide +kernel
theorem d_MD_edge_59 : decode c_MD_edge 59 = .ok (.goto 4, 3) := by decide +kernel
theorem d_MD_edge_62 : decode c_MD_edge 62 = .ok (.iload_n 1, 1) := by decide +kernel
theorem d_MD_edge_63 : decode c_MD_edge 63 = .ok (.istore 5, 2) := by decide +kernel
theorem d_MD_edge_65 : decode c_MD_edge 65 = .ok (.iload 5, 2) := by decide +kernel
theorem d_MD_edge_67 : decode c_MD_edge 67 = .ok (.iload 4, 2) := by decide +kernel
theorem d_MD_edge_69 : decode c_MD_edge 69 = .ok (.iconst 1, 1) := by decide +kernel
theorem d_MD_edge_70 : decode c_MD_edge 70 = .ok (.iadd, 1) := by decide +kernel
theorem d_MD_edge_71 : decode c_MD_edge 71 = .ok (.if_icmp .ne 17, 3) := by decide +kernel
theorem d_MD_edge_74 : decode c_MD_edge 74 = .ok (.iload 5, 2) := by decide +kernel
theorem d_MD_edge_76 : decode c_MD_edge 76 = .ok (.aload_n 0, 1) := by decide +kernel
theorem d_MD_edge_77 : decode c_MD_edge 77 = .ok (.getfield 69, 3) := by decide +kernel
theorem d_MD_edge_80 : decode c_MD_edge 80 = .ok (.irem, 1) := by decide +kernel
theorem d_MD_edge_81 : decode c_MD_edge 81 = .ok (.ifCond .le 7, 3) := by decide +kernel
theorem d_MD_edge_84 : decode c_MD_edge 84 = .ok (.iconst 1, 1) := by decide +kernel
theorem d_MD_edge_85 : decode c_MD_edge 85 = .ok (.goto 4, 3) := by decide +kernel
theorem d_MD_edge_88 : decode c_MD_edge 88 = .ok (.iconst 0, 1) := by decide +kernel
theorem d_MD_edge_89 : decode c_MD_edge 89 = .ok (.istore 6, 2) := by decide +kernel
theorem d_MD_edge_91 : decode c_MD_edge 91 = .ok (.iload 6, 2) := by decide +kernel
theorem d_MD_edge_93 : decode c_MD_edge 93 = .ok (.ifCond .ne 17, 3) := by decide +kernel
theorem d_MD_edge_96 : decode c_MD_edge 96 = .ok (.iload 5, 2) := by decide +kernel
theorem d_MD_edge_98 : decode c_MD_edge 98 = .ok (.iload 4, 2) := by decide +kernel
theorem d_MD_edge_100 : decode c_MD_edge 100 = .ok (.aload_n 0, 1) := by decide +kernel
theorem d_MD_edge_101 : decode c_MD_edge 101 = .ok (.getfield 69, 3) := by decide +kernel
theorem d_MD_edge_104 : decode c_MD_edge 104 = .ok (.iadd, 1) := by decide +kernel
theorem d_MD_edge_105 : decode c_MD_edge 105 = .ok (.if_icmp .eq 5, 3) := by decide +kernel
theorem d_MD_edge_108 : decode c_MD_edge 108 = .ok (.iconst 0, 1) := by decide +kernel
theorem d_MD_edge_109 : decode c_MD_edge 109 = .ok (.ireturn, 1) := by decide +kernel
theorem d_MD_edge_110 : decode c_MD_edge 110 = .ok (.iconst 2, 1) := by decide +kernel
theorem d_MD_edge_111 : decode c_MD_edge 111 = .ok (.iload 4, 2) := by decide +kernel
theorem d_MD_edge_113 : decode c_MD_edge 113 = .ok (.imul, 1) := by decide +kernel
theorem d_MD_edge_114 : decode c_MD_edge 114 = .ok (.iload 6, 2) := by decide +kernel
theorem d_MD_edge_116 : decode c_MD_edge 116 = .ok (.ifCond .eq 7, 3) := by decide +kernel
theorem d_MD_edge_119 : decode c_MD_edge 119 = .ok (.iconst 0, 1) := by decide +kernel
theorem d_MD_edge_120 : decode c_MD_edge 120 = .ok (.goto 4, 3) := by decide +kernel
theorem d_MD_edge_123 : decode c_MD_edge 123 = .ok (.iconst 1, 1) := by decide +kernel
theorem d_MD_edge_124 : decode c_MD_edge 124 = .ok (.iadd, 1) := by decide +kernel
theorem d_MD_edge_125 : decode c_MD_edge 125 = .ok (.istore 7, 2) := by decide +kernel
theorem d_MD_edge_127 : decode c_MD_edge 127 = .ok (.aload_n 0, 1) := by decide +kernel
theorem d_MD_edge_128 : decode c_MD_edge 128 = .ok (.getfield 13, 3) := by decide +kernel
theorem d_MD_edge_131 : decode c_MD_edge 131 = .ok (.iload 7, 2) := by decide +kernel
theorem d_MD_edge_133 : decode c_MD_edge 133 = .ok (.baload, 1) := by decide +kernel
theorem d_MD_edge_134 : decode c_MD_edge 134 = .ok (.iload_n 3, 1) := by decide +kernel
theorem d_MD_edge_135 : decode c_MD_edge 135 = .ok (.if_icmp .eq 5, 3) := by decide +kernel
theorem d_MD_edge_138 : decode c_MD_edge 138 = .ok (.iconst 0, 1) := by decide +kernel
theorem d_MD_edge_139 : decode c_MD_edge 139 = .ok (.ireturn, 1) := by decide +kernel
theorem d_MD_edge_140 : decode c_MD_edge 140 = .ok (.aload_n 0, 1) := by decide +kernel
theorem d_MD_edge_141 : decode c_MD_edge 141 = .ok (.getfield 13, 3) := by decide +kernel
theorem d_MD_edge_144 : decode c_MD_edge 144 = .ok (.iload 7, 2) := by decide +kernel
theorem d_MD_edge_146 : decode c_MD_edge 146 = .ok (.iload_n 3, 1) := by decide +kernel
theorem d_MD_edge_147 : decode c_MD_edge 147 = .ok (.ifCond .ne 7, 3) := by decide +kernel
theorem d_MD_edge_150 : decode c_MD_edge 150 = .ok (.iconst 1, 1) := by decide +kernel
theorem d_MD_edge_151 : decode c_MD_edge 151 = .ok (.goto 4, 3) := by decide +kernel
theorem d_MD_edge_154 : decode c_MD_edge 154 = .ok (.iconst 0, 1) := by decide +kernel
theorem d_MD_edge_155 : decode c_MD_edge 155 = .ok (.bastore, 1) := by decide +kernel
theorem d_MD_edge_156 : decode c_MD_edge 156 = .ok (.aload_n 0, 1) := by decide +kernel
theorem d_MD_edge_157 : decode c_MD_edge 157 = .ok (.invokevirtual 75, 3) := by decide +kernel
theorem d_MD_edge_160 : decode c_MD_edge 160 = .ok (.iconst 1, 1) := by decide +kernel
theorem d_MD_edge_161 : decode c_MD_edge 161 = .ok (.ireturn, 1) := by decide +kernel
theorem d_MD_ends_0 : decode c_MD_ends 0 = .ok (.aload_n 0, 1) := by decide +kernel
theorem d_MD_ends_1 : decode c_MD_ends 1 = .ok (.iconst 0, 1) := by decide +kernel
theorem d_MD_ends_2 : decode c_MD_ends 2 = .ok (.putfield 78, 3) := by decide +kernel
theorem d_MD_ends_5 : decode c_MD_ends 5 = .ok (.aload_n 0, 1) := by decide +kernel
theorem d_MD_ends_6 : decode c_MD_ends 6 = .ok (.iload_n 1, 1) := by decide +kernel
theorem d_MD_ends_7 : decode c_MD_ends 7 = .ok (.invokevirtual 99, 3) := by decide +kernel
theorem d_MD_ends_10 : decode c_MD_ends 10 = .ok (.ifCond .eq 16, 3) := by decide +kernel
theorem d_MD_ends_13 : decode c_MD_ends 13 = .ok (.aload_n 0, 1) := by decide +kernel
theorem d_MD_ends_14 : decode c_MD_ends 14 = .ok (.iload_n 2, 1) := by decide +kernel
theorem d_MD_ends_15 : decode c_MD_ends 15 = .ok (.invokevirtual 99, 3) := by decide +kernel
theorem d_MD_ends_18 : decode c_MD_ends 18 = .ok (.ifCond .eq 8, 3) := by decide +kernel
theorem d_MD_ends_21 : decode c_MD_ends 21 = .ok (.iload_n 1, 1) := by decide +kernel
theorem d_MD_ends_22 : decode c_MD_ends 22 = .ok (.iload_n 2, 1) := by decide +kernel
theorem d_MD_ends_23 : decode c_MD_ends 23 = .ok (.if_icmp .ne 5, 3) := by decide +kernel
theorem d_MD_ends_26 : decode c_MD_ends 26 = .ok (.iconst 0, 1) := by decide +kernel
theorem d_MD_ends_27 : decode c_MD_ends 27 = .ok (.ireturn, 1) := by decide +kernel
theorem d_MD_ends_28 : decode c_MD_ends 28 = .ok (.aload_n 0, 1) := by decide +kernel
theorem d_MD_ends_29 : decode c_MD_ends 29 = .ok (.iload_n 1, 1) := by decide +kernel
theorem d_MD_ends_30 : decode c_MD_ends 30 = .ok (.putfield 16, 3) := by decide +kernel
theorem d_MD_ends_33 : decode c_MD_ends 33 = .ok (.aload_n 0, 1) := by decide +kernel
theorem d_MD_ends_34 : decode c_MD_ends 34 = .ok (.iload_n 2, 1) := by decide +kernel
theorem d_MD_ends_35 : decode c_MD_ends 35 = .ok (.putfield 20, 3) := by decide +kernel
theorem d_MD_ends_38 : decode c_MD_ends 38 = .ok (.aload_n 0, 1) := by decide +kernel
theorem d_MD_ends_39 : decode c_MD_ends 39 = .ok (.iconst 0, 1) := by decide +kernel
theorem d_MD_ends_40 : decode c_MD_ends 40 = .ok (.putfield 92, 3) := by decide +kernel
theorem d_MD_ends_43 : decode c_MD_ends 43 = .ok (.aload_n 0, 1) := by decide +kernel
theorem d_MD_ends_44 : decode c_MD_ends 44 = .ok (.iconst 0, 1) := by decide +kernel
theorem d_MD_ends_45 : decode c_MD_ends 45 = .ok (.putfield 96, 3) := by decide +kernel
theorem d_MD_ends_48 : decode c_MD_ends 48 = .ok (.iconst 1, 1) := by decide +kernel
theorem d_MD_ends_49 : decode c_MD_ends 49 = .ok (.ireturn, 1) := by decide +kernel
theorem d_MD_edges_0 : decode c_MD_edges 0 = .ok (.aload_n 0, 1) := by decide +kernel
theorem d_MD_edges_1 : decode c_MD_edges 1 = .ok (.iconst 0, 1) := by decide +kernel
theorem d_MD_edges_2 : decode c_MD_edges 2 = .ok (.putfield 78, 3) := by decide +kernel
theorem d_MD_edges_5 : decode c_MD_edges 5 = .ok (.aload_n 0, 1) := by decide +kernel
theorem d_MD_edges_6 : decode c_MD_edges 6 = .ok (.getfield 85, 3) := by decide +kernel
theorem d_MD_edges_9 : decode c_MD_edges 9 = .ok (.ireturn, 1) := by decide +kernel
theorem d_MD_isEdge_0 : decode c_MD_isEdge 0 = .ok (.iload_n 1, 1) := by decide +kernel
theorem d_MD_isEdge_1 : decode c_MD_isEdge 1 = .ok (.ifCond .lt 15, 3) := by decide +kernel
theorem d_MD_isEdge_4 : decode c_MD_isEdge 4 = .ok (.iload_n 1, 1) := by decide +kernel
theorem d_MD_isEdge_5 : decode c_MD_isEdge 5 = .ok (.aload_n 0, 1) := by decide +kernel
theorem d_MD_isEdge_6 : decode c_MD_isEdge 6 = .ok (.getfield 85, 3) := by decide +kernel
theorem d_MD_isEdge_9 : decode c_MD_isEdge 9 = .ok (.if_icmp .ge 7, 3) := by decide +kernel
theorem d_MD_isEdge_12 : decode c_MD_isEdge 12 = .ok (.iconst 1, 1) := by decide +kernel
theorem d_MD_isEdge_13 : decode c_MD_isEdge 13 = .ok (.goto 4, 3) := by decide +kernel
theorem d_MD_isEdge_16 : decode c_MD_isEdge 16 = .ok (.iconst 0, 1) := by decide +kernel
theorem d_MD_isEdge_17 : decode c_MD_isEdge 17 = .ok (.ireturn, 1) := by decide +kernel
theorem d_MD_end_0 : decode c_MD_end 0 = .ok (.aload_n 0, 1) := by decide +kernel
theorem d_MD_end_1 : decode c_MD_end 1 = .ok (.iconst 0, 1) := by decide +kernel
theorem d_MD_end_2 : decode c_MD_end 2 = .ok (.putfield 78, 3) := by decide +kernel
theorem d_MD_end_5 : decode c_MD_end 5 = .ok (.aload_n 0, 1) := by decide +kernel
theorem d_MD_end_6 : decode c_MD_end 6 = .ok (.iload_n 1, 1) := by decide +kernel
theorem d_MD_end_7 : decode c_MD_end 7 = .ok (.invokevirtual 103, 3) := by decide +kernel
theorem d_MD_end_10 : decode c_MD_end 10 = .ok (.ifCond .eq 24, 3) := by decide +kernel
theorem d_MD_end_13 : decode c_MD_end 13 = .ok (.aload_n 0, 1) := by decide +kernel
theorem d_MD_end_14 : decode c_MD_end 14 = .ok (.getfield 23, 3) := by decide +kernel
theorem d_MD_end_17 : decode c_MD_end 17 = .ok (.iconst 2, 1) := by decide +kernel
theorem d_MD_end_18 : decode c_MD_end 18 = .ok (.iload_n 1, 1) := by decide +kernel
theorem d_MD_end_19 : decode c_MD_end 19 = .ok (.imul, 1) := by decide +kernel
theorem d_MD_end_20 : decode c_MD_end 20 = .ok (.iload_n 2, 1) := by decide +kernel
theorem d_MD_end_21 : decode c_MD_end 21 = .ok (.ifCond .eq 7, 3) := by decide +kernel
theorem d_MD_end_24 : decode c_MD_end 24 = .ok (.iconst 1, 1) := by decide +kernel
theorem d_MD_end_25 : decode c_MD_end 25 = .ok (.goto 4, 3) := by decide +kernel
theorem d_MD_end_28 : decode c_MD_end 28 = .ok (.iconst 0, 1) := by decide +kernel
theorem d_MD_end_29 : decode c_MD_end 29 = .ok (.iadd, 1) := by decide +kernel
theorem d_MD_end_30 : decode c_MD_end 30 = .ok (.iaload, 1) := by decide +kernel
theorem d_MD_end_31 : decode c_MD_end 31 = .ok (.goto 4, 3) := by decide +kernel
theorem d_MD_end_34 : decode c_MD_end 34 = .ok (.iconst (-1), 1) := by decide +kernel
theorem d_MD_end_35 : decode c_MD_end 35 = .ok (.ireturn, 1) := by decide +kernel
theorem d_MD_force_0 : decode c_MD_force 0 = .ok (.aload_n 0, 1) := by decide +kernel
theorem d_MD_force_1 : decode c_MD_force 1 = .ok (.iconst 0, 1) := by decide +kernel
theorem d_MD_force_2 : decode c_MD_force 2 = .ok (.putfield 78, 3) := by decide +kernel
theorem d_MD_force_5 : decode c_MD_force 5 = .ok (.aload_n 0, 1) := by decide +kernel
theorem d_MD_force_6 : decode c_MD_force 6 = .ok (.iload_n 1, 1) := by decide +kernel
theorem d_MD_force_7 : decode c_MD_force 7 = .ok (.invokevirtual 103, 3) := by decide +kernel
theorem d_MD_force_10 : decode c_MD_force 10 = .ok (.ifCond .eq 12, 3) := by decide +kernel
theorem d_MD_force_13 : decode c_MD_force 13 = .ok (.iload_n 2, 1) := by decide +kernel
theorem d_MD_force_14 : decode c_MD_force 14 = .ok (.ifCond .lt 8, 3) := by decide +kernel
theorem d_MD_force_17 : decode c_MD_force 17 = .ok (.iload_n 2, 1) := by decide +kernel
theorem d_MD_force_18 : decode c_MD_force 18 = .ok (.iconst 2, 1) := by decide +kernel
theorem d_MD_force_19 : decode c_MD_force 19 = .ok (.if_icmp .le 5, 3) := by decide +kernel
theorem d_MD_force_22 : decode c_MD_force 22 = .ok (.iconst 0, 1) := by decide +kernel
theorem d_MD_force_23 : decode c_MD_force 23 = .ok (.ireturn, 1) := by decide +kernel
theorem d_MD_force_24 : decode c_MD_force 24 = .ok (.aload_n 0, 1) := by decide +kernel
theorem d_MD_force_25 : decode c_MD_force 25 = .ok (.getfield 27, 3) := by decide +kernel
theorem d_MD_force_28 : decode c_MD_force 28 = .ok (.iload_n 1, 1) := by decide +kernel
theorem d_MD_force_29 : decode c_MD_force 29 = .ok (.iload_n 2, 1) := by decide +kernel
theorem d_MD_force_30 : decode c_MD_force 30 = .ok (.iastore, 1) := by decide +kernel
theorem d_MD_force_31 : decode c_MD_force 31 = .ok (.aload_n 0, 1) := by decide +kernel
theorem d_MD_force_32 : decode c_MD_force 32 = .ok (.iconst 0, 1) := by decide +kernel
theorem d_MD_force_33 : decode c_MD_force 33 = .ok (.putfield 96, 3) := by decide +kernel
theorem d_MD_force_36 : decode c_MD_force 36 = .ok (.iconst 1, 1) := by decide +kernel
theorem d_MD_force_37 : decode c_MD_force 37 = .ok (.ireturn, 1) := by decide +kernel
theorem d_MD_add_0 : decode c_MD_add 0 = .ok (.aload_n 0, 1) := by decide +kernel
theorem d_MD_add_1 : decode c_MD_add 1 = .ok (.getfield 31, 3) := by decide +kernel
theorem d_MD_add_4 : decode c_MD_add 4 = .ok (.aload_n 0, 1) := by decide +kernel
theorem d_MD_add_5 : decode c_MD_add 5 = .ok (.getfield 106, 3) := by decide +kernel
theorem d_MD_add_8 : decode c_MD_add 8 = .ok (.lload_n 1, 1) := by decide +kernel
theorem d_MD_add_9 : decode c_MD_add 9 = .ok (.lastore, 1) := by decide +kernel
theorem d_MD_add_10 : decode c_MD_add 10 = .ok (.aload_n 0, 1) := by decide +kernel
theorem d_MD_add_11 : decode c_MD_add 11 = .ok (.dup, 1) := by decide +kernel
theorem d_MD_add_12 : decode c_MD_add 12 = .ok (.getfield 106, 3) := by decide +kernel
theorem d_MD_add_15 : decode c_MD_add 15 = .ok (.iconst 1, 1) := by decide +kernel
theorem d_MD_add_16 : decode c_MD_add 16 = .ok (.iadd, 1) := by decide +kernel
theorem d_MD_add_17 : decode c_MD_add 17 = .ok (.putfield 106, 3) := by decide +kernel
theorem d_MD_add_20 : decode c_MD_add 20 = .ok (.return_, 1) := by decide +kernel
theorem d_MD_across_0 : decode c_MD_across 0 = .ok (.aload_n 0, 1) := by decide +kernel
theorem d_MD_across_1 : decode c_MD_across 1 = .ok (.getfield 23, 3) := by decide +kernel
theorem d_MD_across_4 : decode c_MD_across 4 = .ok (.iconst 2, 1) := by decide +kernel
theorem d_MD_across_5 : decode c_MD_across 5 = .ok (.iload_n 1, 1) := by decide +kernel
theorem d_MD_across_6 : decode c_MD_across 6 = .ok (.imul, 1) := by decide +kernel
theorem d_MD_across_7 : decode c_MD_across 7 = .ok (.iaload, 1) := by decide +kernel
theorem d_MD_across_8 : decode c_MD_across 8 = .ok (.iload_n 2, 1) := by decide +kernel
theorem d_MD_across_9 : decode c_MD_across 9 = .ok (.if_icmp .ne 16, 3) := by decide +kernel
theorem d_MD_across_12 : decode c_MD_across 12 = .ok (.aload_n 0, 1) := by decide +kernel
theorem d_MD_across_13 : decode c_MD_across 13 = .ok (.getfield 23, 3) := by decide +kernel
theorem d_MD_across_16 : decode c_MD_across 16 = .ok (.iconst 2, 1) := by decide +kernel
theorem d_MD_across_17 : decode c_MD_across 17 = .ok (.iload_n 1, 1) := by decide +kernel
theorem d_MD_across_18 : decode c_MD_across 18 = .ok (.imul, 1) := by decide +kernel
theorem d_MD_across_19 : decode c_MD_across 19 = .ok (.iconst 1, 1) := by decide +kernel
theorem d_MD_across_20 : decode c_MD_across 20 = .ok (.iadd, 1) := by decide +kernel
theorem d_MD_across_21 : decode c_MD_across 21 = .ok (.iaload, 1) := by decide +kernel
theorem d_MD_across_22 : decode c_MD_across 22 = .ok (.goto 29, 3) := by decide +kernel
theorem d_MD_across_25 : decode c_MD_across 25 = .ok (.aload_n 0, 1) := by decide +kernel
theorem d_MD_across_26 : decode c_MD_across 26 = .ok (.getfield 23, 3) := by decide +kernel
theorem d_MD_across_29 : decode c_MD_across 29 = .ok (.iconst 2, 1) := by decide +kernel
theorem d_MD_across_30 : decode c_MD_across 30 = .ok (.iload_n 1, 1) := by decide +kernel
theorem d_MD_across_31 : decode c_MD_across 31 = .ok (.imul, 1) := by decide +kernel
theorem d_MD_across_32 : decode c_MD_across 32 = .ok (.iconst 1, 1) := by decide +kernel
theorem d_MD_across_33 : decode c_MD_across 33 = .ok (.iadd, 1) := by decide +kernel
theorem d_MD_across_34 : decode c_MD_across 34 = .ok (.iaload, 1) := by decide +kernel
theorem d_MD_across_35 : decode c_MD_across 35 = .ok (.iload_n 2, 1) := by decide +kernel
theorem d_MD_across_36 : decode c_MD_across 36 = .ok (.if_icmp .ne 14, 3) := by decide +kernel
theorem d_MD_across_39 : decode c_MD_across 39 = .ok (.aload_n 0, 1) := by decide +kernel
theorem d_MD_across_40 : decode c_MD_across 40 = .ok (.getfield 23, 3) := by decide +kernel
theorem d_MD_across_43 : decode c_MD_across 43 = .ok (.iconst 2, 1) := by decide +kernel
theorem d_MD_across_44 : decode c_MD_across 44 = .ok (.iload_n 1, 1) := by decide +kernel
theorem d_MD_across_45 : decode c_MD_across 45 = .ok (.imul, 1) := by decide +kernel
theorem d_MD_across_46 : decode c_MD_across 46 = .ok (.iaload, 1) := by decide +kernel
theorem d_MD_across_47 : decode c_MD_across 47 = .ok (.goto 4, 3) := by decide +kernel
theorem d_MD_across_50 : decode c_MD_across 50 = .ok (.iconst (-1), 1) := by decide +kernel
theorem d_MD_across_51 : decode c_MD_across 51 = .ok (.ireturn, 1) := by decide +kernel
theorem d_MD_isOn_0 : decode c_MD_isOn 0 = .ok (.iconst 0, 1) := by decide +kernel
theorem d_MD_isOn_1 : decode c_MD_isOn 1 = .ok (.istore_n 3, 1) := by decide +kernel
theorem d_MD_isOn_2 : decode c_MD_isOn 2 = .ok (.iload_n 3, 1) := by decide +kernel
theorem d_MD_isOn_3 : decode c_MD_isOn 3 = .ok (.iload_n 1, 1) := by decide +kernel
theorem d_MD_isOn_4 : decode c_MD_isOn 4 = .ok (.if_icmp .ge 21, 3) := by decide +kernel
theorem d_MD_isOn_7 : decode c_MD_isOn 7 = .ok (.aload_n 0, 1) := by decide +kernel
theorem d_MD_isOn_8 : decode c_MD_isOn 8 = .ok (.getfield 38, 3) := by decide +kernel
theorem d_MD_isOn_11 : decode c_MD_isOn 11 = .ok (.iload_n 3, 1) := by decide +kernel
theorem d_MD_isOn_12 : decode c_MD_isOn 12 = .ok (.iaload, 1) := by decide +kernel
theorem d_MD_isOn_13 : decode c_MD_isOn 13 = .ok (.iload_n 2, 1) := by decide +kernel
theorem d_MD_isOn_14 : decode c_MD_isOn 14 = .ok (.if_icmp .ne 5, 3) := by decide +kernel
theorem d_MD_isOn_17 : decode c_MD_isOn 17 = .ok (.iconst 1, 1) := by decide +kernel
theorem d_MD_isOn_18 : decode c_MD_isOn 18 = .ok (.ireturn, 1) := by decide +kernel
theorem d_MD_isOn_19 : decode c_MD_isOn 19 = .ok (.iinc 3 1, 3) := by decide +kernel
theorem d_MD_isOn_22 : decode c_MD_isOn 22 = .ok (.goto (-20), 3) := by decide +kernel
theorem d_MD_isOn_25 : decode c_MD_isOn 25 = .ok (.iconst 0, 1) := by decide +kernel
theorem d_MD_isOn_26 : decode c_MD_isOn 26 = .ok (.ireturn, 1) := by decide +kernel
theorem d_MD_walkFrom_0 : decode c_MD_walkFrom 0 = .ok (.iconst 1, 1) := by decide +kernel
theorem d_MD_walkFrom_1 : decode c_MD_walkFrom 1 = .ok (.istore 4, 2) := by decide +kernel
theorem d_MD_walkFrom_3 : decode c_MD_walkFrom 3 = .ok (.aload_n 0, 1) := by decide +kernel
theorem d_MD_walkFrom_4 : decode c_MD_walkFrom 4 = .ok (.getfield 38, 3) := by decide +kernel
theorem d_MD_walkFrom_7 : decode c_MD_walkFrom 7 = .ok (.iconst 0, 1) := by decide +kernel
theorem d_MD_walkFrom_8 : decode c_MD_walkFrom 8 = .ok (.iload_n 1, 1) := by decide +kernel
theorem d_MD_walkFrom_9 : decode c_MD_walkFrom 9 = .ok (.iastore, 1) := by decide +kernel
theorem d_MD_walkFrom_10 : decode c_MD_walkFrom 10 = .ok (.aload_n 0, 1) := by decide +kernel
theorem d_MD_walkFrom_11 : decode c_MD_walkFrom 11 = .ok (.getfield 41, 3) := by decide +kernel
theorem d_MD_walkFrom_14 : decode c_MD_walkFrom 14 = .ok (.iconst 0, 1) := by decide +kernel
theorem d_MD_walkFrom_15 : decode c_MD_walkFrom 15 = .ok (.iconst 0, 1) := by decide +kernel
theorem d_MD_walkFrom_16 : decode c_MD_walkFrom 16 = .ok (.iastore, 1) := by decide +kernel
theorem d_MD_walkFrom_17 : decode c_MD_walkFrom 17 = .ok (.aload_n 0, 1) := by decide +kernel
theorem d_MD_walkFrom_18 : decode c_MD_walkFrom 18 = .ok (.getfield 44, 3) := by decide +kernel
theorem d_MD_walkFrom_21 : decode c_MD_walkFrom 21 = .ok (.iconst 0, 1) := by decide +kernel
theorem d_MD_walkFrom_22 : decode c_MD_walkFrom 22 = .ok (.lconst 0, 1) := by decide +kernel
theorem d_MD_walkFrom_23 : decode c_MD_walkFrom 23 = .ok (.lastore, 1) := by decide +kernel
theorem d_MD_walkFrom_24 : decode c_MD_walkFrom 24 = .ok (.iload 4, 2) := by decide +kernel
theorem d_MD_walkFrom_26 : decode c_MD_walkFrom 26 = .ok (.ifCond .le 206, 3) := by decide +kernel
theorem d_MD_walkFrom_29 : decode c_MD_walkFrom 29 = .ok (.aload_n 0, 1) := by decide +kernel
theorem d_MD_walkFrom_30 : decode c_MD_walkFrom 30 = .ok (.getfield 38, 3) := by decide +kernel
theorem d_MD_walkFrom_33 : decode c_MD_walkFrom 33 = .ok (.iload 4, 2) := by decide +kernel
theorem d_MD_walkFrom_35 : decode c_MD_walkFrom 35 = .ok (.iconst 1, 1) := by decide +kernel
theorem d_MD_walkFrom_36 : decode c_MD_walkFrom 36 = .ok (.isub, 1) := by decide +kernel
theorem d_MD_walkFrom_37 : decode c_MD_walkFrom 37 = .ok (.iaload, 1) := by decide +kernel
theorem d_MD_walkFrom_38 : decode c_MD_walkFrom 38 = .ok (.istore 5, 2) := by decide +kernel
theorem d_MD_walkFrom_40 : decode c_MD_walkFrom 40 = .ok (.aload_n 0, 1) := by decide +kernel
theorem d_MD_walkFrom_41 : decode c_MD_walkFrom 41 = .ok (.getfield 41, 3) := by decide +kernel
theorem d_MD_walkFrom_44 : decode c_MD_walkFrom 44 = .ok (.iload 4, 2) := by decide +kernel
theorem d_MD_walkFrom_46 : decode c_MD_walkFrom 46 = .ok (.iconst 1, 1) := by decide +kernel
theorem d_MD_walkFrom_47 : decode c_MD_walkFrom 47 = .ok (.isub, 1) := by decide +kernel
theorem d_MD_walkFrom_48 : decode c_MD_walkFrom 48 = .ok (.iaload, 1) := by decide +kernel
theorem d_MD_walkFrom_49 : decode c_MD_walkFrom 49 = .ok (.istore 6, 2) := by decide +kernel
theorem d_MD_walkFrom_51 : decode c_MD_walkFrom 51 = .ok (.iload 6, 2) := by decide +kernel
theorem d_MD_walkFrom_53 : decode c_MD_walkFrom 53 = .ok (.aload_n 0, 1) := by decide +kernel
theorem d_MD_walkFrom_54 : decode c_MD_walkFrom 54 = .ok (.getfield 85, 3) := by decide +kernel
theorem d_MD_walkFrom_57 : decode c_MD_walkFrom 57 = .ok (.if_icmp .eq 16, 3) := by decide +kernel
theorem d_MD_walkFrom_60 : decode c_MD_walkFrom 60 = .ok (.iload_n 3, 1) := by decide +kernel
theorem d_MD_walkFrom_61 : decode c_MD_walkFrom 61 = .ok (.ifCond .ne 44, 3) := by decide +kernel
theorem d_MD_walkFrom_64 : decode c_MD_walkFrom 64 = .ok (.iload 5, 2) := by decide +kernel
theorem d_MD_walkFrom_66 : decode c_MD_walkFrom 66 = .ok (.aload_n 0, 1) := by decide +kernel
theorem d_MD_walkFrom_67 : decode c_MD_walkFrom 67 = .ok (.getfield 20, 3) := by decide +kernel
theorem d_MD_walkFrom_70 : decode c_MD_walkFrom 70 = .ok (.if_icmp .ne 35, 3) := by decide +kernel
theorem d_MD_walkFrom_73 : decode c_MD_walkFrom 73 = .ok (.iload_n 3, 1) := by decide +kernel
theorem d_MD_walkFrom_74 : decode c_MD_walkFrom 74 = .ok (.ifCond .ne 25, 3) := by decide +kernel
theorem d_MD_walkFrom_77 : decode c_MD_walkFrom 77 = .ok (.iload 5, 2) := by decide +kernel
theorem d_MD_walkFrom_79 : decode c_MD_walkFrom 79 = .ok (.aload_n 0, 1) := by decide +kernel
theorem d_MD_walkFrom_80 : decode c_MD_walkFrom 80 = .ok (.getfield 20, 3) := by decide +kernel
theorem d_MD_walkFrom_83 : decode c_MD_walkFrom 83 = .ok (.if_icmp .ne 16, 3) := by decide +kernel
theorem d_MD_walkFrom_86 : decode c_MD_walkFrom 86 = .ok (.aload_n 0, 1) := by decide +kernel
theorem d_MD_walkFrom_87 : decode c_MD_walkFrom 87 = .ok (.aload_n 0, 1) := by decide +kernel
theorem d_MD_walkFrom_88 : decode c_MD_walkFrom 88 = .ok (.getfield 44, 3) := by decide +kernel
theorem d_MD_walkFrom_91 : decode c_MD_walkFrom 91 = .ok (.iload 4, 2) := by decide +kernel
theorem d_MD_walkFrom_93 : decode c_MD_walkFrom 93 = .ok (.iconst 1, 1) := by decide +kernel
theorem d_MD_walkFrom_94 : decode c_MD_walkFrom 94 = .ok (.isub, 1) := by decide +kernel
theorem d_MD_walkFrom_95 : decode c_MD_walkFrom 95 = .ok (.laload, 1) := by decide +kernel
theorem d_MD_walkFrom_96 : decode c_MD_walkFrom 96 = .ok (.invokevirtual 109, 3) := by decide +kernel
theorem d_MD_walkFrom_99 : decode c_MD_walkFrom 99 = .ok (.iinc 4 (-1), 3) := by decide +kernel
theorem d_MD_walkFrom_102 : decode c_MD_walkFrom 102 = .ok (.goto (-78), 3) := by decide +kernel
theorem d_MD_walkFrom_105 : decode c_MD_walkFrom 105 = .ok (.aload_n 0, 1) := by decide +kernel
theorem d_MD_walkFrom_106 : decode c_MD_walkFrom 106 = .ok (.getfield 41, 3) := by decide +kernel
theorem d_MD_walkFrom_109 : decode c_MD_walkFrom 109 = .ok (.iload 4, 2) := by decide +kernel
theorem d_MD_walkFrom_111 : decode c_MD_walkFrom 111 = .ok (.iconst 1, 1) := by decide +kernel
theorem d_MD_walkFrom_112 : decode c_MD_walkFrom 112 = .ok (.isub, 1) := by decide +kernel
theorem d_MD_walkFrom_113 : decode c_MD_walkFrom 113 = .ok (.dup2, 1) := by decide +kernel
theorem d_MD_walkFrom_114 : decode c_MD_walkFrom 114 = .ok (.iaload, 1) := by decide +kernel
theorem d_MD_walkFrom_115 : decode c_MD_walkFrom 115 = .ok (.iconst 1, 1) := by decide +kernel
theorem d_MD_walkFrom_116 : decode c_MD_walkFrom 116 = .ok (.iadd, 1) := by decide +kernel
theorem d_MD_walkFrom_117 : decode c_MD_walkFrom 117 = .ok (.iastore, 1) := by decide +kernel
theorem d_MD_walkFrom_118 : decode c_MD_walkFrom 118 = .ok (.aload_n 0, 1) := by decide +kernel
theorem d_MD_walkFrom_119 : decode c_MD_walkFrom 119 = .ok (.iload 6, 2) := by decide +kernel
theorem d_MD_walkFrom_121 : decode c_MD_walkFrom 121 = .ok (.iload 5, 2) := by decide +kernel
theorem d_MD_walkFrom_123 : decode c_MD_walkFrom 123 = .ok (.invokevirtual 113, 3) := by decide +kernel
theorem d_MD_walkFrom_126 : decode c_MD_walkFrom 126 = .ok (.istore 7, 2) := by decide +kernel
theorem d_MD_walkFrom_128 : decode c_MD_walkFrom 128 = .ok (.iload 7, 2) := by decide +kernel
theorem d_MD_walkFrom_130 : decode c_MD_walkFrom 130 = .ok (.iload_n 2, 1) := by decide +kernel
theorem d_MD_walkFrom_131 : decode c_MD_walkFrom 131 = .ok (.if_icmp .ge 6, 3) := by decide +kernel
theorem d_MD_walkFrom_134 : decode c_MD_walkFrom 134 = .ok (.goto (-110), 3) := by decide +kernel
theorem d_MD_walkFrom_137 : decode c_MD_walkFrom 137 = .ok (.aload_n 0, 1) := by decide +kernel
theorem d_MD_walkFrom_138 : decode c_MD_walkFrom 138 = .ok (.getfield 44, 3) := by decide +kernel
theorem d_MD_walkFrom_141 : decode c_MD_walkFrom 141 = .ok (.iload 4, 2) := by decide +kernel
theorem d_MD_walkFrom_143 : decode c_MD_walkFrom 143 = .ok (.iconst 1, 1) := by decide +kernel
theorem d_MD_walkFrom_144 : decode c_MD_walkFrom 144 = .ok (.isub, 1) := by decide +kernel
theorem d_MD_walkFrom_145 : decode c_MD_walkFrom 145 = .ok (.laload, 1) := by decide +kernel
theorem d_MD_walkFrom_146 : decode c_MD_walkFrom 146 = .ok (.lconst 1, 1) := by decide +kernel
theorem d_MD_walkFrom_147 : decode c_MD_walkFrom 147 = .ok (.iload 6, 2) := by decide +kernel
theorem d_MD_walkFrom_149 : decode c_MD_walkFrom 149 = .ok (.lshl, 1) := by decide +kernel
theorem d_MD_walkFrom_150 : decode c_MD_walkFrom 150 = .ok (.lor, 1) := by decide +kernel
theorem d_MD_walkFrom_151 : decode c_MD_walkFrom 151 = .ok (.lstore 8, 2) := by decide +kernel
theorem d_MD_walkFrom_153 : decode c_MD_walkFrom 153 = .ok (.iload_n 3, 1) := by decide +kernel
theorem d_MD_walkFrom_154 : decode c_MD_walkFrom 154 = .ok (.ifCond .eq 32, 3) := by decide +kernel
theorem d_MD_walkFrom_157 : decode c_MD_walkFrom 157 = .ok (.iload 7, 2) := by decide +kernel
theorem d_MD_walkFrom_159 : decode c_MD_walkFrom 159 = .ok (.iload_n 1, 1) := by decide +kernel
theorem d_MD_walkFrom_160 : decode c_MD_walkFrom 160 = .ok (.if_icmp .ne 26, 3) := by decide +kernel
theorem d_MD_walkFrom_163 : decode c_MD_walkFrom 163 = .ok (.iload 4, 2) := by decide +kernel
theorem d_MD_walkFrom_165 : decode c_MD_walkFrom 165 = .ok (.iconst 2, 1) := by decide +kernel
theorem d_MD_walkFrom_166 : decode c_MD_walkFrom 166 = .ok (.if_icmp .le 20, 3) := by decide +kernel
theorem d_MD_walkFrom_169 : decode c_MD_walkFrom 169 = .ok (.aload_n 0, 1) := by decide +kernel
theorem d_MD_walkFrom_170 : decode c_MD_walkFrom 170 = .ok (.getfield 38, 3) := by decide +kernel
theorem d_MD_walkFrom_173 : decode c_MD_walkFrom 173 = .ok (.iconst 1, 1) := by decide +kernel
theorem d_MD_walkFrom_174 : decode c_MD_walkFrom 174 = .ok (.iaload, 1) := by decide +kernel
theorem d_MD_walkFrom_175 : decode c_MD_walkFrom 175 = .ok (.iload 5, 2) := by decide +kernel
theorem d_MD_walkFrom_177 : decode c_MD_walkFrom 177 = .ok (.if_icmp .ge 9, 3) := by decide +kernel
theorem d_MD_walkFrom_180 : decode c_MD_walkFrom 180 = .ok (.aload_n 0, 1) := by decide +kernel
theorem d_MD_walkFrom_181 : decode c_MD_walkFrom 181 = .ok (.lload 8, 2) := by decide +kernel
theorem d_MD_walkFrom_183 : decode c_MD_walkFrom 183 = .ok (.invokevirtual 109, 3) := by decide +kernel
theorem d_MD_walkFrom_186 : decode c_MD_walkFrom 186 = .ok (.aload_n 0, 1) := by decide +kernel
theorem d_MD_walkFrom_187 : decode c_MD_walkFrom 187 = .ok (.iload 4, 2) := by decide +kernel
theorem d_MD_walkFrom_189 : decode c_MD_walkFrom 189 = .ok (.iload 7, 2) := by decide +kernel
theorem d_MD_walkFrom_191 : decode c_MD_walkFrom 191 = .ok (.invokevirtual 117, 3) := by decide +kernel
theorem d_MD_walkFrom_194 : decode c_MD_walkFrom 194 = .ok (.ifCond .eq 6, 3) := by decide +kernel
theorem d_MD_walkFrom_197 : decode c_MD_walkFrom 197 = .ok (.goto (-173), 3) := by decide +kernel
theorem d_MD_walkFrom_200 : decode c_MD_walkFrom 200 = .ok (.aload_n 0, 1) := by decide +kernel
theorem d_MD_walkFrom_201 : decode c_MD_walkFrom 201 = .ok (.getfield 38, 3) := by decide +kernel
theorem d_MD_walkFrom_204 : decode c_MD_walkFrom 204 = .ok (.iload 4, 2) := by decide +kernel
theorem d_MD_walkFrom_206 : decode c_MD_walkFrom 206 = .ok (.iload 7, 2) := by decide +kernel
theorem d_MD_walkFrom_208 : decode c_MD_walkFrom 208 = .ok (.iastore, 1) := by decide +kernel
theorem d_MD_walkFrom_209 : decode c_MD_walkFrom 209 = .ok (.aload_n 0, 1) := by decide +kernel
theorem d_MD_walkFrom_210 : decode c_MD_walkFrom 210 = .ok (.getfield 41, 3) := by decide +kernel
theorem d_MD_walkFrom_213 : decode c_MD_walkFrom 213 = .ok (.iload 4, 2) := by decide +kernel
theorem d_MD_walkFrom_215 : decode c_MD_walkFrom 215 = .ok (.iconst 0, 1) := by decide +kernel
theorem d_MD_walkFrom_216 : decode c_MD_walkFrom 216 = .ok (.iastore, 1) := by decide +kernel
theorem d_MD_walkFrom_217 : decode c_MD_walkFrom 217 = .ok (.aload_n 0, 1) := by decide +kernel
theorem d_MD_walkFrom_218 : decode c_MD_walkFrom 218 = .ok (.getfield 44, 3) := by decide +kernel
theorem d_MD_walkFrom_221 : decode c_MD_walkFrom 221 = .ok (.iload 4, 2) := by decide +kernel
theorem d_MD_walkFrom_223 : decode c_MD_walkFrom 223 = .ok (.lload 8, 2) := by decide +kernel
theorem d_MD_walkFrom_225 : decode c_MD_walkFrom 225 = .ok (.lastore, 1) := by decide +kernel
theorem d_MD_walkFrom_226 : decode c_MD_walkFrom 226 = .ok (.iinc 4 1, 3) := by decide +kernel
theorem d_MD_walkFrom_229 : decode c_MD_walkFrom 229 = .ok (.goto (-205), 3) := by decide +kernel
theorem d_MD_walkFrom_232 : decode c_MD_walkFrom 232 = .ok (.return_, 1) := by decide +kernel
theorem d_MD_listDegrees_0 : decode c_MD_listDegrees 0 = .ok (.iconst 0, 1) := by decide +kernel
theorem d_MD_listDegrees_1 : decode c_MD_listDegrees 1 = .ok (.istore_n 2, 1) := by decide +kernel
theorem d_MD_listDegrees_2 : decode c_MD_listDegrees 2 = .ok (.iload_n 2, 1) := by decide +kernel
theorem d_MD_listDegrees_3 : decode c_MD_listDegrees 3 = .ok (.bipush 25, 2) := by decide +kernel
theorem d_MD_listDegrees_5 : decode c_MD_listDegrees 5 = .ok (.if_icmp .ge 23, 3) := by decide +kernel
theorem d_MD_listDegrees_8 : decode c_MD_listDegrees 8 = .ok (.aload_n 0, 1) := by decide +kernel
theorem d_MD_listDegrees_9 : decode c_MD_listDegrees 9 = .ok (.getfield 47, 3) := by decide +kernel
theorem d_MD_listDegrees_12 : decode c_MD_listDegrees 12 = .ok (.iload_n 2, 1) := by decide +kernel
theorem d_MD_listDegrees_13 : decode c_MD_listDegrees 13 = .ok (.iconst 0, 1) := by decide +kernel
theorem d_MD_listDegrees_14 : decode c_MD_listDegrees 14 = .ok (.iastore, 1) := by decide +kernel
theorem d_MD_listDegrees_15 : decode c_MD_listDegrees 15 = .ok (.aload_n 0, 1) := by decide +kernel
theorem d_MD_listDegrees_16 : decode c_MD_listDegrees 16 = .ok (.getfield 50, 3) := by decide +kernel
theorem d_MD_listDegrees_19 : decode c_MD_listDegrees 19 = .ok (.iload_n 2, 1) := by decide +kernel
theorem d_MD_listDegrees_20 : decode c_MD_listDegrees 20 = .ok (.iconst (-1), 1) := by decide +kernel
theorem d_MD_listDegrees_21 : decode c_MD_listDegrees 21 = .ok (.iastore, 1) := by decide +kernel
theorem d_MD_listDegrees_22 : decode c_MD_listDegrees 22 = .ok (.iinc 2 1, 3) := by decide +kernel
theorem d_MD_listDegrees_25 : decode c_MD_listDegrees 25 = .ok (.goto (-23), 3) := by decide +kernel
theorem d_MD_listDegrees_28 : decode c_MD_listDegrees 28 = .ok (.iconst 0, 1) := by decide +kernel
theorem d_MD_listDegrees_29 : decode c_MD_listDegrees 29 = .ok (.istore_n 2, 1) := by decide +kernel
theorem d_MD_listDegrees_30 : decode c_MD_listDegrees 30 = .ok (.iload_n 2, 1) := by decide +kernel
theorem d_MD_listDegrees_31 : decode c_MD_listDegrees 31 = .ok (.iconst 2, 1) := by decide +kernel
theorem d_MD_listDegrees_32 : decode c_MD_listDegrees 32 = .ok (.aload_n 0, 1) := by decide +kernel
theorem d_MD_listDegrees_33 : decode c_MD_listDegrees 33 = .ok (.getfield 85, 3) := by decide +kernel
theorem d_MD_listDegrees_36 : decode c_MD_listDegrees 36 = .ok (.imul, 1) := by decide +kernel
theorem d_MD_listDegrees_37 : decode c_MD_listDegrees 37 = .ok (.if_icmp .ge 23, 3) := by decide +kernel
theorem d_MD_listDegrees_40 : decode c_MD_listDegrees 40 = .ok (.aload_n 0, 1) := by decide +kernel
theorem d_MD_listDegrees_41 : decode c_MD_listDegrees 41 = .ok (.getfield 50, 3) := by decide +kernel
theorem d_MD_listDegrees_44 : decode c_MD_listDegrees 44 = .ok (.aload_n 0, 1) := by decide +kernel
theorem d_MD_listDegrees_45 : decode c_MD_listDegrees 45 = .ok (.getfield 23, 3) := by decide +kernel
theorem d_MD_listDegrees_48 : decode c_MD_listDegrees 48 = .ok (.iload_n 2, 1) := by decide +kernel
theorem d_MD_listDegrees_49 : decode c_MD_listDegrees 49 = .ok (.iaload, 1) := by decide +kernel
theorem d_MD_listDegrees_50 : decode c_MD_listDegrees 50 = .ok (.iload_n 2, 1) := by decide +kernel
theorem d_MD_listDegrees_51 : decode c_MD_listDegrees 51 = .ok (.iconst 2, 1) := by decide +kernel
theorem d_MD_listDegrees_52 : decode c_MD_listDegrees 52 = .ok (.idiv, 1) := by decide +kernel
theorem d_MD_listDegrees_53 : decode c_MD_listDegrees 53 = .ok (.iastore, 1) := by decide +kernel
theorem d_MD_listDegrees_54 : decode c_MD_listDegrees 54 = .ok (.iinc 2 1, 3) := by decide +kernel
theorem d_MD_listDegrees_57 : decode c_MD_listDegrees 57 = .ok (.goto (-27), 3) := by decide +kernel
theorem d_MD_listDegrees_60 : decode c_MD_listDegrees 60 = .ok (.iconst 0, 1) := by decide +kernel
theorem d_MD_listDegrees_61 : decode c_MD_listDegrees 61 = .ok (.istore_n 2, 1) := by decide +kernel
theorem d_MD_listDegrees_62 : decode c_MD_listDegrees 62 = .ok (.iload_n 2, 1) := by decide +kernel
theorem d_MD_listDegrees_63 : decode c_MD_listDegrees 63 = .ok (.aload_n 0, 1) := by decide +kernel
theorem d_MD_listDegrees_64 : decode c_MD_listDegrees 64 = .ok (.invokevirtual 81, 3) := by decide +kernel
theorem d_MD_listDegrees_67 : decode c_MD_listDegrees 67 = .ok (.if_icmp .ge 28, 3) := by decide +kernel
theorem d_MD_listDegrees_70 : decode c_MD_listDegrees 70 = .ok (.aload_n 0, 1) := by decide +kernel
theorem d_MD_listDegrees_71 : decode c_MD_listDegrees 71 = .ok (.getfield 7, 3) := by decide +kernel
theorem d_MD_listDegrees_74 : decode c_MD_listDegrees 74 = .ok (.iload_n 2, 1) := by decide +kernel
theorem d_MD_listDegrees_75 : decode c_MD_listDegrees 75 = .ok (.baload, 1) := by decide +kernel
theorem d_MD_listDegrees_76 : decode c_MD_listDegrees 76 = .ok (.ifCond .ne 13, 3) := by decide +kernel
theorem d_MD_listDegrees_79 : decode c_MD_listDegrees 79 = .ok (.aload_n 0, 1) := by decide +kernel
theorem d_MD_listDegrees_80 : decode c_MD_listDegrees 80 = .ok (.getfield 50, 3) := by decide +kernel
theorem d_MD_listDegrees_83 : decode c_MD_listDegrees 83 = .ok (.iload_n 2, 1) := by decide +kernel
theorem d_MD_listDegrees_84 : decode c_MD_listDegrees 84 = .ok (.iaload, 1) := by decide +kernel
theorem d_MD_listDegrees_85 : decode c_MD_listDegrees 85 = .ok (.ifCond .ge 4, 3) := by decide +kernel
theorem d_MD_listDegrees_88 : decode c_MD_listDegrees 88 = .ok (.return_, 1) := by decide +kernel
theorem d_MD_listDegrees_89 : decode c_MD_listDegrees 89 = .ok (.iinc 2 1, 3) := by decide +kernel
theorem d_MD_listDegrees_92 : decode c_MD_listDegrees 92 = .ok (.goto (-30), 3) := by decide +kernel
theorem d_MD_listDegrees_95 : decode c_MD_listDegrees 95 = .ok (.iconst 0, 1) := by decide +kernel
theorem d_MD_listDegrees_96 : decode c_MD_listDegrees 96 = .ok (.istore_n 2, 1) := by decide +kernel
theorem d_MD_listDegrees_97 : decode c_MD_listDegrees 97 = .ok (.aload_n 0, 1) := by decide +kernel
theorem d_MD_listDegrees_98 : decode c_MD_listDegrees 98 = .ok (.getfield 53, 3) := by decide +kernel
theorem d_MD_listDegrees_101 : decode c_MD_listDegrees 101 = .ok (.iconst 0, 1) := by decide +kernel
theorem d_MD_listDegrees_102 : decode c_MD_listDegrees 102 = .ok (.iconst (-1), 1) := by decide +kernel
theorem d_MD_listDegrees_103 : decode c_MD_listDegrees 103 = .ok (.iastore, 1) := by decide +kernel
theorem d_MD_listDegrees_104 : decode c_MD_listDegrees 104 = .ok (.lconst 0, 1) := by decide +kernel
theorem d_MD_listDegrees_105 : decode c_MD_listDegrees 105 = .ok (.lstore_n 3, 1) := by decide +kernel
theorem d_MD_listDegrees_106 : decode c_MD_listDegrees 106 = .ok (.iload_n 2, 1) := by decide +kernel
theorem d_MD_listDegrees_107 : decode c_MD_listDegrees 107 = .ok (.ifCond .lt 234, 3) := by decide +kernel
theorem d_MD_listDegrees_110 : decode c_MD_listDegrees 110 = .ok (.iload_n 2, 1) := by decide +kernel
theorem d_MD_listDegrees_111 : decode c_MD_listDegrees 111 = .ok (.aload_n 0, 1) := by decide +kernel
theorem d_MD_listDegrees_112 : decode c_MD_listDegrees 112 = .ok (.getfield 85, 3) := by decide +kernel
theorem d_MD_listDegrees_115 : decode c_MD_listDegrees 115 = .ok (.if_icmp .ne 14, 3) := by decide +kernel
theorem d_MD_listDegrees_118 : decode c_MD_listDegrees 118 = .ok (.aload_n 0, 1) := by decide +kernel
theorem d_MD_listDegrees_119 : decode c_MD_listDegrees 119 = .ok (.lload_n 3, 1) := by decide +kernel
theorem d_MD_listDegrees_120 : decode c_MD_listDegrees 120 = .ok (.invokevirtual 109, 3) := by decide +kernel
theorem d_MD_listDegrees_123 : decode c_MD_listDegrees 123 = .ok (.iinc 2 (-1), 3) := by decide +kernel
theorem d_MD_listDegrees_126 : decode c_MD_listDegrees 126 = .ok (.goto (-20), 3) := by decide +kernel
theorem d_MD_listDegrees_129 : decode c_MD_listDegrees 129 = .ok (.aload_n 0, 1) := by decide +kernel
theorem d_MD_listDegrees_130 : decode c_MD_listDegrees 130 = .ok (.getfield 23, 3) := by decide +kernel
theorem d_MD_listDegrees_133 : decode c_MD_listDegrees 133 = .ok (.iconst 2, 1) := by decide +kernel
theorem d_MD_listDegrees_134 : decode c_MD_listDegrees 134 = .ok (.iload_n 2, 1) := by decide +kernel
theorem d_MD_listDegrees_135 : decode c_MD_listDegrees 135 = .ok (.imul, 1) := by decide +kernel
theorem d_MD_listDegrees_136 : decode c_MD_listDegrees 136 = .ok (.iaload, 1) := by decide +kernel
theorem d_MD_listDegrees_137 : decode c_MD_listDegrees 137 = .ok (.istore 5, 2) := by decide +kernel
theorem d_MD_listDegrees_139 : decode c_MD_listDegrees 139 = .ok (.aload_n 0, 1) := by decide +kernel
theorem d_MD_listDegrees_140 : decode c_MD_listDegrees 140 = .ok (.getfield 23, 3) := by decide +kernel
theorem d_MD_listDegrees_143 : decode c_MD_listDegrees 143 = .ok (.iconst 2, 1) := by decide +kernel
theorem d_MD_listDegrees_144 : decode c_MD_listDegrees 144 = .ok (.iload_n 2, 1) := by decide +kernel
theorem d_MD_listDegrees_145 : decode c_MD_listDegrees 145 = .ok (.imul, 1) := by decide +kernel
theorem d_MD_listDegrees_146 : decode c_MD_listDegrees 146 = .ok (.iconst 1, 1) := by decide +kernel
theorem d_MD_listDegrees_147 : decode c_MD_listDegrees 147 = .ok (.iadd, 1) := by decide +kernel
theorem d_MD_listDegrees_148 : decode c_MD_listDegrees 148 = .ok (.iaload, 1) := by decide +kernel
theorem d_MD_listDegrees_149 : decode c_MD_listDegrees 149 = .ok (.istore 6, 2) := by decide +kernel
theorem d_MD_listDegrees_151 : decode c_MD_listDegrees 151 = .ok (.aload_n 0, 1) := by decide +kernel
theorem d_MD_listDegrees_152 : decode c_MD_listDegrees 152 = .ok (.getfield 53, 3) := by decide +kernel
theorem d_MD_listDegrees_155 : decode c_MD_listDegrees 155 = .ok (.iload_n 2, 1) := by decide +kernel
theorem d_MD_listDegrees_156 : decode c_MD_listDegrees 156 = .ok (.iaload, 1) := by decide +kernel
theorem d_MD_listDegrees_157 : decode c_MD_listDegrees 157 = .ok (.iconst 1, 1) := by decide +kernel
theorem d_MD_listDegrees_158 : decode c_MD_listDegrees 158 = .ok (.if_icmp .ne 41, 3) := by decide +kernel
theorem d_MD_listDegrees_161 : decode c_MD_listDegrees 161 = .ok (.aload_n 0, 1) := by decide +kernel
theorem d_MD_listDegrees_162 : decode c_MD_listDegrees 162 = .ok (.getfield 47, 3) := by decide +kernel
theorem d_MD_listDegrees_165 : decode c_MD_listDegrees 165 = .ok (.iload 5, 2) := by decide +kernel
theorem d_MD_listDegrees_167 : decode c_MD_listDegrees 167 = .ok (.dup2, 1) := by decide +kernel
theorem d_MD_listDegrees_168 : decode c_MD_listDegrees 168 = .ok (.iaload, 1) := by decide +kernel
theorem d_MD_listDegrees_169 : decode c_MD_listDegrees 169 = .ok (.iconst 1, 1) := by decide +kernel
theorem d_MD_listDegrees_170 : decode c_MD_listDegrees 170 = .ok (.isub, 1) := by decide +kernel
theorem d_MD_listDegrees_171 : decode c_MD_listDegrees 171 = .ok (.iastore, 1) := by decide +kernel
theorem d_MD_listDegrees_172 : decode c_MD_listDegrees 172 = .ok (.aload_n 0, 1) := by decide +kernel
theorem d_MD_listDegrees_173 : decode c_MD_listDegrees 173 = .ok (.getfield 47, 3) := by decide +kernel
theorem d_MD_listDegrees_176 : decode c_MD_listDegrees 176 = .ok (.iload 6, 2) := by decide +kernel
theorem d_MD_listDegrees_178 : decode c_MD_listDegrees 178 = .ok (.dup2, 1) := by decide +kernel
theorem d_MD_listDegrees_179 : decode c_MD_listDegrees 179 = .ok (.iaload, 1) := by decide +kernel
theorem d_MD_listDegrees_180 : decode c_MD_listDegrees 180 = .ok (.iconst 1, 1) := by decide +kernel
theorem d_MD_listDegrees_181 : decode c_MD_listDegrees 181 = .ok (.isub, 1) := by decide +kernel
theorem d_MD_listDegrees_182 : decode c_MD_listDegrees 182 = .ok (.iastore, 1) := by decide +kernel
theorem d_MD_listDegrees_183 : decode c_MD_listDegrees 183 = .ok (.lload_n 3, 1) := by decide +kernel
theorem d_MD_listDegrees_184 : decode c_MD_listDegrees 184 = .ok (.lconst 1, 1) := by decide +kernel
theorem d_MD_listDegrees_185 : decode c_MD_listDegrees 185 = .ok (.iload_n 2, 1) := by decide +kernel
theorem d_MD_listDegrees_186 : decode c_MD_listDegrees 186 = .ok (.lshl, 1) := by decide +kernel
theorem d_MD_listDegrees_187 : decode c_MD_listDegrees 187 = .ok (.ldc2_w 121, 3) := by decide +kernel
theorem d_MD_listDegrees_190 : decode c_MD_listDegrees 190 = .ok (.lxor, 1) := by decide +kernel
theorem d_MD_listDegrees_191 : decode c_MD_listDegrees 191 = .ok (.land, 1) := by decide +kernel
theorem d_MD_listDegrees_192 : decode c_MD_listDegrees 192 = .ok (.lstore_n 3, 1) := by decide +kernel
theorem d_MD_listDegrees_193 : decode c_MD_listDegrees 193 = .ok (.iinc 2 (-1), 3) := by decide +kernel
theorem d_MD_listDegrees_196 : decode c_MD_listDegrees 196 = .ok (.goto (-90), 3) := by decide +kernel
theorem d_MD_listDegrees_199 : decode c_MD_listDegrees 199 = .ok (.aload_n 0, 1) := by decide +kernel
theorem d_MD_listDegrees_200 : decode c_MD_listDegrees 200 = .ok (.getfield 53, 3) := by decide +kernel
theorem d_MD_listDegrees_203 : decode c_MD_listDegrees 203 = .ok (.iload_n 2, 1) := by decide +kernel
theorem d_MD_listDegrees_204 : decode c_MD_listDegrees 204 = .ok (.dup2, 1) := by decide +kernel
theorem d_MD_listDegrees_205 : decode c_MD_listDegrees 205 = .ok (.iaload, 1) := by decide +kernel
theorem d_MD_listDegrees_206 : decode c_MD_listDegrees 206 = .ok (.iconst 1, 1) := by decide +kernel
theorem d_MD_listDegrees_207 : decode c_MD_listDegrees 207 = .ok (.iadd, 1) := by decide +kernel
theorem d_MD_listDegrees_208 : decode c_MD_listDegrees 208 = .ok (.iastore, 1) := by decide +kernel
theorem d_MD_listDegrees_209 : decode c_MD_listDegrees 209 = .ok (.aload_n 0, 1) := by decide +kernel
theorem d_MD_listDegrees_210 : decode c_MD_listDegrees 210 = .ok (.getfield 53, 3) := by decide +kernel
theorem d_MD_listDegrees_213 : decode c_MD_listDegrees 213 = .ok (.iload_n 2, 1) := by decide +kernel
theorem d_MD_listDegrees_214 : decode c_MD_listDegrees 214 = .ok (.iaload, 1) := by decide +kernel
theorem d_MD_listDegrees_215 : decode c_MD_listDegrees 215 = .ok (.iconst 1, 1) := by decide +kernel
theorem d_MD_listDegrees_216 : decode c_MD_listDegrees 216 = .ok (.if_icmp .ne 31, 3) := by decide +kernel
theorem d_MD_listDegrees_219 : decode c_MD_listDegrees 219 = .ok (.aload_n 0, 1) := by decide +kernel
theorem d_MD_listDegrees_220 : decode c_MD_listDegrees 220 = .ok (.getfield 47, 3) := by decide +kernel
theorem d_MD_listDegrees_223 : decode c_MD_listDegrees 223 = .ok (.iload 5, 2) := by decide +kernel
theorem d_MD_listDegrees_225 : decode c_MD_listDegrees 225 = .ok (.dup2, 1) := by decide +kernel
theorem d_MD_listDegrees_226 : decode c_MD_listDegrees 226 = .ok (.iaload, 1) := by decide +kernel
theorem d_MD_listDegrees_227 : decode c_MD_listDegrees 227 = .ok (.iconst 1, 1) := by decide +kernel
theorem d_MD_listDegrees_228 : decode c_MD_listDegrees 228 = .ok (.iadd, 1) := by decide +kernel
theorem d_MD_listDegrees_229 : decode c_MD_listDegrees 229 = .ok (.iastore, 1) := by decide +kernel
theorem d_MD_listDegrees_230 : decode c_MD_listDegrees 230 = .ok (.aload_n 0, 1) := by decide +kernel
theorem d_MD_listDegrees_231 : decode c_MD_listDegrees 231 = .ok (.getfield 47, 3) := by decide +kernel
theorem d_MD_listDegrees_234 : decode c_MD_listDegrees 234 = .ok (.iload 6, 2) := by decide +kernel
theorem d_MD_listDegrees_236 : decode c_MD_listDegrees 236 = .ok (.dup2, 1) := by decide +kernel
theorem d_MD_listDegrees_237 : decode c_MD_listDegrees 237 = .ok (.iaload, 1) := by decide +kernel
theorem d_MD_listDegrees_238 : decode c_MD_listDegrees 238 = .ok (.iconst 1, 1) := by decide +kernel
theorem d_MD_listDegrees_239 : decode c_MD_listDegrees 239 = .ok (.iadd, 1) := by decide +kernel
theorem d_MD_listDegrees_240 : decode c_MD_listDegrees 240 = .ok (.iastore, 1) := by decide +kernel
theorem d_MD_listDegrees_241 : decode c_MD_listDegrees 241 = .ok (.lload_n 3, 1) := by decide +kernel
theorem d_MD_listDegrees_242 : decode c_MD_listDegrees 242 = .ok (.lconst 1, 1) := by decide +kernel
theorem d_MD_listDegrees_243 : decode c_MD_listDegrees 243 = .ok (.iload_n 2, 1) := by decide +kernel
theorem d_MD_listDegrees_244 : decode c_MD_listDegrees 244 = .ok (.lshl, 1) := by decide +kernel
theorem d_MD_listDegrees_245 : decode c_MD_listDegrees 245 = .ok (.lor, 1) := by decide +kernel
theorem d_MD_listDegrees_246 : decode c_MD_listDegrees 246 = .ok (.lstore_n 3, 1) := by decide +kernel
theorem d_MD_listDegrees_247 : decode c_MD_listDegrees 247 = .ok (.aload_n 0, 1) := by decide +kernel
theorem d_MD_listDegrees_248 : decode c_MD_listDegrees 248 = .ok (.getfield 47, 3) := by decide +kernel
theorem d_MD_listDegrees_251 : decode c_MD_listDegrees 251 = .ok (.iload 5, 2) := by decide +kernel
theorem d_MD_listDegrees_253 : decode c_MD_listDegrees 253 = .ok (.iaload, 1) := by decide +kernel
theorem d_MD_listDegrees_254 : decode c_MD_listDegrees 254 = .ok (.iload_n 1, 1) := by decide +kernel
theorem d_MD_listDegrees_255 : decode c_MD_listDegrees 255 = .ok (.if_icmp .gt 62, 3) := by decide +kernel
theorem d_MD_listDegrees_258 : decode c_MD_listDegrees 258 = .ok (.aload_n 0, 1) := by decide +kernel
theorem d_MD_listDegrees_259 : decode c_MD_listDegrees 259 = .ok (.getfield 47, 3) := by decide +kernel
theorem d_MD_listDegrees_262 : decode c_MD_listDegrees 262 = .ok (.iload 6, 2) := by decide +kernel
theorem d_MD_listDegrees_264 : decode c_MD_listDegrees 264 = .ok (.iaload, 1) := by decide +kernel
theorem d_MD_listDegrees_265 : decode c_MD_listDegrees 265 = .ok (.iload_n 1, 1) := by decide +kernel
theorem d_MD_listDegrees_266 : decode c_MD_listDegrees 266 = .ok (.if_icmp .gt 51, 3) := by decide +kernel
theorem d_MD_listDegrees_269 : decode c_MD_listDegrees 269 = .ok (.aload_n 0, 1) := by decide +kernel
theorem d_MD_listDegrees_270 : decode c_MD_listDegrees 270 = .ok (.getfield 50, 3) := by decide +kernel
theorem d_MD_listDegrees_273 : decode c_MD_listDegrees 273 = .ok (.iload 5, 2) := by decide +kernel
theorem d_MD_listDegrees_275 : decode c_MD_listDegrees 275 = .ok (.iaload, 1) := by decide +kernel
theorem d_MD_listDegrees_276 : decode c_MD_listDegrees 276 = .ok (.iload_n 2, 1) := by decide +kernel
theorem d_MD_listDegrees_277 : decode c_MD_listDegrees 277 = .ok (.if_icmp .ne 14, 3) := by decide +kernel
theorem d_MD_listDegrees_280 : decode c_MD_listDegrees 280 = .ok (.aload_n 0, 1) := by decide +kernel
theorem d_MD_listDegrees_281 : decode c_MD_listDegrees 281 = .ok (.getfield 47, 3) := by decide +kernel
theorem d_MD_listDegrees_284 : decode c_MD_listDegrees 284 = .ok (.iload 5, 2) := by decide +kernel
theorem d_MD_listDegrees_286 : decode c_MD_listDegrees 286 = .ok (.iaload, 1) := by decide +kernel
theorem d_MD_listDegrees_287 : decode c_MD_listDegrees 287 = .ok (.iload_n 1, 1) := by decide +kernel
theorem d_MD_listDegrees_288 : decode c_MD_listDegrees 288 = .ok (.if_icmp .ne 29, 3) := by decide +kernel
theorem d_MD_listDegrees_291 : decode c_MD_listDegrees 291 = .ok (.aload_n 0, 1) := by decide +kernel
theorem d_MD_listDegrees_292 : decode c_MD_listDegrees 292 = .ok (.getfield 50, 3) := by decide +kernel
theorem d_MD_listDegrees_295 : decode c_MD_listDegrees 295 = .ok (.iload 6, 2) := by decide +kernel
theorem d_MD_listDegrees_297 : decode c_MD_listDegrees 297 = .ok (.iaload, 1) := by decide +kernel
theorem d_MD_listDegrees_298 : decode c_MD_listDegrees 298 = .ok (.iload_n 2, 1) := by decide +kernel
theorem d_MD_listDegrees_299 : decode c_MD_listDegrees 299 = .ok (.if_icmp .ne 14, 3) := by decide +kernel
theorem d_MD_listDegrees_302 : decode c_MD_listDegrees 302 = .ok (.aload_n 0, 1) := by decide +kernel
theorem d_MD_listDegrees_303 : decode c_MD_listDegrees 303 = .ok (.getfield 47, 3) := by decide +kernel
theorem d_MD_listDegrees_306 : decode c_MD_listDegrees 306 = .ok (.iload 6, 2) := by decide +kernel
theorem d_MD_listDegrees_308 : decode c_MD_listDegrees 308 = .ok (.iaload, 1) := by decide +kernel
theorem d_MD_listDegrees_309 : decode c_MD_listDegrees 309 = .ok (.iload_n 1, 1) := by decide +kernel
theorem d_MD_listDegrees_310 : decode c_MD_listDegrees 310 = .ok (.if_icmp .ne 7, 3) := by decide +kernel
theorem d_MD_listDegrees_313 : decode c_MD_listDegrees 313 = .ok (.iconst 1, 1) := by decide +kernel
theorem d_MD_listDegrees_314 : decode c_MD_listDegrees 314 = .ok (.goto 4, 3) := by decide +kernel
theorem d_MD_listDegrees_317 : decode c_MD_listDegrees 317 = .ok (.iconst 0, 1) := by decide +kernel
theorem d_MD_listDegrees_318 : decode c_MD_listDegrees 318 = .ok (.istore 7, 2) := by decide +kernel
theorem d_MD_listDegrees_320 : decode c_MD_listDegrees 320 = .ok (.iload 7, 2) := by decide +kernel
theorem d_MD_listDegrees_322 : decode c_MD_listDegrees 322 = .ok (.ifCond .ne 6, 3) := by decide +kernel
theorem d_MD_listDegrees_325 : decode c_MD_listDegrees 325 = .ok (.goto (-219), 3) := by decide +kernel
theorem d_MD_listDegrees_328 : decode c_MD_listDegrees 328 = .ok (.iinc 2 1, 3) := by decide +kernel
theorem d_MD_listDegrees_331 : decode c_MD_listDegrees 331 = .ok (.aload_n 0, 1) := by decide +kernel
theorem d_MD_listDegrees_332 : decode c_MD_listDegrees 332 = .ok (.getfield 53, 3) := by decide +kernel
theorem d_MD_listDegrees_335 : decode c_MD_listDegrees 335 = .ok (.iload_n 2, 1) := by decide +kernel
theorem d_MD_listDegrees_336 : decode c_MD_listDegrees 336 = .ok (.iconst (-1), 1) := by decide +kernel
theorem d_MD_listDegrees_337 : decode c_MD_listDegrees 337 = .ok (.iastore, 1) := by decide +kernel
theorem d_MD_listDegrees_338 : decode c_MD_listDegrees 338 = .ok (.goto (-232), 3) := by decide +kernel
theorem d_MD_listDegrees_341 : decode c_MD_listDegrees 341 = .ok (.return_, 1) := by decide +kernel
