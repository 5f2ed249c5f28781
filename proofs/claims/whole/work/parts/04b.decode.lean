theorem d_FC_draw_0 : decode c_FC_draw 0 = .ok (.aload_n 0, 1) := by decide +kernel
theorem d_FC_draw_1 : decode c_FC_draw 1 = .ok (.ldc2_w 47, 3) := by decide +kernel
theorem d_FC_draw_4 : decode c_FC_draw 4 = .ok (.putfield 49, 3) := by decide +kernel
theorem d_FC_draw_7 : decode c_FC_draw 7 = .ok (.aload_n 0, 1) := by decide +kernel
theorem d_FC_draw_8 : decode c_FC_draw 8 = .ok (.invokevirtual 123, 3) := by decide +kernel
theorem d_FC_draw_11 : decode c_FC_draw 11 = .ok (.lstore_n 3, 1) := by decide +kernel
theorem d_FC_draw_12 : decode c_FC_draw 12 = .ok (.lload_n 3, 1) := by decide +kernel
theorem d_FC_draw_13 : decode c_FC_draw 13 = .ok (.lconst 0, 1) := by decide +kernel
theorem d_FC_draw_14 : decode c_FC_draw 14 = .ok (.lcmp, 1) := by decide +kernel
theorem d_FC_draw_15 : decode c_FC_draw 15 = .ok (.ifCond .gt 5, 3) := by decide +kernel
theorem d_FC_draw_18 : decode c_FC_draw 18 = .ok (.iconst 0, 1) := by decide +kernel
theorem d_FC_draw_19 : decode c_FC_draw 19 = .ok (.ireturn, 1) := by decide +kernel
theorem d_FC_draw_20 : decode c_FC_draw 20 = .ok (.ldc2_w 128, 3) := by decide +kernel
theorem d_FC_draw_23 : decode c_FC_draw 23 = .ok (.lload_n 1, 1) := by decide +kernel
theorem d_FC_draw_24 : decode c_FC_draw 24 = .ok (.lmul, 1) := by decide +kernel
theorem d_FC_draw_25 : decode c_FC_draw 25 = .ok (.ldc2_w 130, 3) := by decide +kernel
theorem d_FC_draw_28 : decode c_FC_draw 28 = .ok (.ladd, 1) := by decide +kernel
theorem d_FC_draw_29 : decode c_FC_draw 29 = .ok (.iconst 1, 1) := by decide +kernel
theorem d_FC_draw_30 : decode c_FC_draw 30 = .ok (.lushr, 1) := by decide +kernel
theorem d_FC_draw_31 : decode c_FC_draw 31 = .ok (.lload_n 3, 1) := by decide +kernel
theorem d_FC_draw_32 : decode c_FC_draw 32 = .ok (.lrem, 1) := by decide +kernel
theorem d_FC_draw_33 : decode c_FC_draw 33 = .ok (.lstore 5, 2) := by decide +kernel
theorem d_FC_draw_35 : decode c_FC_draw 35 = .ok (.aload_n 0, 1) := by decide +kernel
theorem d_FC_draw_36 : decode c_FC_draw 36 = .ok (.aload_n 0, 1) := by decide +kernel
theorem d_FC_draw_37 : decode c_FC_draw 37 = .ok (.getfield 35, 3) := by decide +kernel
theorem d_FC_draw_40 : decode c_FC_draw 40 = .ok (.lload 5, 2) := by decide +kernel
theorem d_FC_draw_42 : decode c_FC_draw 42 = .ok (.invokevirtual 132, 3) := by decide +kernel
theorem d_FC_draw_45 : decode c_FC_draw 45 = .ok (.putfield 136, 3) := by decide +kernel
theorem d_FC_draw_48 : decode c_FC_draw 48 = .ok (.aload_n 0, 1) := by decide +kernel
theorem d_FC_draw_49 : decode c_FC_draw 49 = .ok (.lload 5, 2) := by decide +kernel
theorem d_FC_draw_51 : decode c_FC_draw 51 = .ok (.putfield 49, 3) := by decide +kernel
theorem d_FC_draw_54 : decode c_FC_draw 54 = .ok (.iconst 1, 1) := by decide +kernel
theorem d_FC_draw_55 : decode c_FC_draw 55 = .ok (.ireturn, 1) := by decide +kernel
theorem d_FC_drawn_0 : decode c_FC_drawn 0 = .ok (.aload_n 0, 1) := by decide +kernel
theorem d_FC_drawn_1 : decode c_FC_drawn 1 = .ok (.getfield 49, 3) := by decide +kernel
theorem d_FC_drawn_4 : decode c_FC_drawn 4 = .ok (.ldc2_w 47, 3) := by decide +kernel
theorem d_FC_drawn_7 : decode c_FC_drawn 7 = .ok (.lcmp, 1) := by decide +kernel
theorem d_FC_drawn_8 : decode c_FC_drawn 8 = .ok (.ifCond .eq 31, 3) := by decide +kernel
theorem d_FC_drawn_11 : decode c_FC_drawn 11 = .ok (.aload_n 0, 1) := by decide +kernel
theorem d_FC_drawn_12 : decode c_FC_drawn 12 = .ok (.iload_n 1, 1) := by decide +kernel
theorem d_FC_drawn_13 : decode c_FC_drawn 13 = .ok (.invokevirtual 94, 3) := by decide +kernel
theorem d_FC_drawn_16 : decode c_FC_drawn 16 = .ok (.ifCond .eq 23, 3) := by decide +kernel
theorem d_FC_drawn_19 : decode c_FC_drawn 19 = .ok (.aload_n 0, 1) := by decide +kernel
theorem d_FC_drawn_20 : decode c_FC_drawn 20 = .ok (.getfield 136, 3) := by decide +kernel
theorem d_FC_drawn_23 : decode c_FC_drawn 23 = .ok (.aload_n 0, 1) := by decide +kernel
theorem d_FC_drawn_24 : decode c_FC_drawn 24 = .ok (.getfield 43, 3) := by decide +kernel
theorem d_FC_drawn_27 : decode c_FC_drawn 27 = .ok (.iload_n 1, 1) := by decide +kernel
theorem d_FC_drawn_28 : decode c_FC_drawn 28 = .ok (.iaload, 1) := by decide +kernel
theorem d_FC_drawn_29 : decode c_FC_drawn 29 = .ok (.invokestatic 77, 3) := by decide +kernel
theorem d_FC_drawn_32 : decode c_FC_drawn 32 = .ok (.ifCond .eq 7, 3) := by decide +kernel
theorem d_FC_drawn_35 : decode c_FC_drawn 35 = .ok (.iconst 1, 1) := by decide +kernel
theorem d_FC_drawn_36 : decode c_FC_drawn 36 = .ok (.goto 4, 3) := by decide +kernel
theorem d_FC_drawn_39 : decode c_FC_drawn 39 = .ok (.iconst 0, 1) := by decide +kernel
theorem d_FC_drawn_40 : decode c_FC_drawn 40 = .ok (.ireturn, 1) := by decide +kernel
theorem d_FC_rank_0 : decode c_FC_rank 0 = .ok (.aload_n 0, 1) := by decide +kernel
theorem d_FC_rank_1 : decode c_FC_rank 1 = .ok (.getfield 49, 3) := by decide +kernel
theorem d_FC_rank_4 : decode c_FC_rank 4 = .ok (.lreturn, 1) := by decide +kernel
theorem d_FC_held_0 : decode c_FC_held 0 = .ok (.iload_n 1, 1) := by decide +kernel
theorem d_FC_held_1 : decode c_FC_held 1 = .ok (.iload_n 2, 1) := by decide +kernel
theorem d_FC_held_2 : decode c_FC_held 2 = .ok (.iload_n 0, 1) := by decide +kernel
theorem d_FC_held_3 : decode c_FC_held 3 = .ok (.invokestatic 139, 3) := by decide +kernel
theorem d_FC_held_6 : decode c_FC_held 6 = .ok (.invokestatic 144, 3) := by decide +kernel
theorem d_FC_held_9 : decode c_FC_held 9 = .ok (.ireturn, 1) := by decide +kernel
theorem d_FC_has_0 : decode c_FC_has 0 = .ok (.lload_n 0, 1) := by decide +kernel
theorem d_FC_has_1 : decode c_FC_has 1 = .ok (.iload_n 2, 1) := by decide +kernel
theorem d_FC_has_2 : decode c_FC_has 2 = .ok (.lushr, 1) := by decide +kernel
theorem d_FC_has_3 : decode c_FC_has 3 = .ok (.lconst 1, 1) := by decide +kernel
theorem d_FC_has_4 : decode c_FC_has 4 = .ok (.land, 1) := by decide +kernel
theorem d_FC_has_5 : decode c_FC_has 5 = .ok (.lconst 0, 1) := by decide +kernel
theorem d_FC_has_6 : decode c_FC_has 6 = .ok (.lcmp, 1) := by decide +kernel
theorem d_FC_has_7 : decode c_FC_has 7 = .ok (.ifCond .eq 7, 3) := by decide +kernel
theorem d_FC_has_10 : decode c_FC_has 10 = .ok (.iconst 1, 1) := by decide +kernel
theorem d_FC_has_11 : decode c_FC_has 11 = .ok (.goto 4, 3) := by decide +kernel
theorem d_FC_has_14 : decode c_FC_has 14 = .ok (.iconst 0, 1) := by decide +kernel
theorem d_FC_has_15 : decode c_FC_has 15 = .ok (.ireturn, 1) := by decide +kernel
theorem d_FC_ruleOf_0 : decode c_FC_ruleOf 0 = .ok (.iload_n 0, 1) := by decide +kernel
theorem d_FC_ruleOf_1 : decode c_FC_ruleOf 1 = .ok (.tableswitch 70 0 3 #[31, 41, 51, 61], 31) := by decide +kernel
theorem d_FC_ruleOf_32 : decode c_FC_ruleOf 32 = .ok (.new 147, 3) := by decide +kernel
theorem d_FC_ruleOf_35 : decode c_FC_ruleOf 35 = .ok (.dup, 1) := by decide +kernel
theorem d_FC_ruleOf_36 : decode c_FC_ruleOf 36 = .ok (.aload_n 1, 1) := by decide +kernel
theorem d_FC_ruleOf_37 : decode c_FC_ruleOf 37 = .ok (.iconst 1, 1) := by decide +kernel
theorem d_FC_ruleOf_38 : decode c_FC_ruleOf 38 = .ok (.invokespecial 149, 3) := by decide +kernel
theorem d_FC_ruleOf_41 : decode c_FC_ruleOf 41 = .ok (.areturn, 1) := by decide +kernel
theorem d_FC_ruleOf_42 : decode c_FC_ruleOf 42 = .ok (.new 152, 3) := by decide +kernel
theorem d_FC_ruleOf_45 : decode c_FC_ruleOf 45 = .ok (.dup, 1) := by decide +kernel
theorem d_FC_ruleOf_46 : decode c_FC_ruleOf 46 = .ok (.aload_n 1, 1) := by decide +kernel
theorem d_FC_ruleOf_47 : decode c_FC_ruleOf 47 = .ok (.iconst 0, 1) := by decide +kernel
theorem d_FC_ruleOf_48 : decode c_FC_ruleOf 48 = .ok (.invokespecial 154, 3) := by decide +kernel
theorem d_FC_ruleOf_51 : decode c_FC_ruleOf 51 = .ok (.areturn, 1) := by decide +kernel
theorem d_FC_ruleOf_52 : decode c_FC_ruleOf 52 = .ok (.new 152, 3) := by decide +kernel
theorem d_FC_ruleOf_55 : decode c_FC_ruleOf 55 = .ok (.dup, 1) := by decide +kernel
theorem d_FC_ruleOf_56 : decode c_FC_ruleOf 56 = .ok (.aload_n 1, 1) := by decide +kernel
theorem d_FC_ruleOf_57 : decode c_FC_ruleOf 57 = .ok (.iconst 1, 1) := by decide +kernel
theorem d_FC_ruleOf_58 : decode c_FC_ruleOf 58 = .ok (.invokespecial 154, 3) := by decide +kernel
theorem d_FC_ruleOf_61 : decode c_FC_ruleOf 61 = .ok (.areturn, 1) := by decide +kernel
theorem d_FC_ruleOf_62 : decode c_FC_ruleOf 62 = .ok (.new 157, 3) := by decide +kernel
theorem d_FC_ruleOf_65 : decode c_FC_ruleOf 65 = .ok (.dup, 1) := by decide +kernel
theorem d_FC_ruleOf_66 : decode c_FC_ruleOf 66 = .ok (.aload_n 1, 1) := by decide +kernel
theorem d_FC_ruleOf_67 : decode c_FC_ruleOf 67 = .ok (.invokespecial 159, 3) := by decide +kernel
theorem d_FC_ruleOf_70 : decode c_FC_ruleOf 70 = .ok (.areturn, 1) := by decide +kernel
theorem d_FC_ruleOf_71 : decode c_FC_ruleOf 71 = .ok (.new 147, 3) := by decide +kernel
theorem d_FC_ruleOf_74 : decode c_FC_ruleOf 74 = .ok (.dup, 1) := by decide +kernel
theorem d_FC_ruleOf_75 : decode c_FC_ruleOf 75 = .ok (.aload_n 1, 1) := by decide +kernel
theorem d_FC_ruleOf_76 : decode c_FC_ruleOf 76 = .ok (.iconst 2, 1) := by decide +kernel
theorem d_FC_ruleOf_77 : decode c_FC_ruleOf 77 = .ok (.invokespecial 149, 3) := by decide +kernel
theorem d_FC_ruleOf_80 : decode c_FC_ruleOf 80 = .ok (.areturn, 1) := by decide +kernel
theorem d_FC_mostCodes_0 : decode c_FC_mostCodes 0 = .ok (.iload_n 0, 1) := by decide +kernel
theorem d_FC_mostCodes_1 : decode c_FC_mostCodes 1 = .ok (.tableswitch 34 1 3 #[27, 27, 31], 27) := by decide +kernel
theorem d_FC_mostCodes_28 : decode c_FC_mostCodes 28 = .ok (.sipush 136, 3) := by decide +kernel
theorem d_FC_mostCodes_31 : decode c_FC_mostCodes 31 = .ok (.ireturn, 1) := by decide +kernel
theorem d_FC_mostCodes_32 : decode c_FC_mostCodes 32 = .ok (.bipush 42, 2) := by decide +kernel
theorem d_FC_mostCodes_34 : decode c_FC_mostCodes 34 = .ok (.ireturn, 1) := by decide +kernel
theorem d_FC_mostCodes_35 : decode c_FC_mostCodes 35 = .ok (.bipush 64, 2) := by decide +kernel
theorem d_FC_mostCodes_37 : decode c_FC_mostCodes 37 = .ok (.ireturn, 1) := by decide +kernel
theorem d_FC_isEdge_0 : decode c_FC_isEdge 0 = .ok (.iload_n 1, 1) := by decide +kernel
theorem d_FC_isEdge_1 : decode c_FC_isEdge 1 = .ok (.ifCond .lt 24, 3) := by decide +kernel
theorem d_FC_isEdge_4 : decode c_FC_isEdge 4 = .ok (.iload_n 1, 1) := by decide +kernel
theorem d_FC_isEdge_5 : decode c_FC_isEdge 5 = .ok (.aload_n 0, 1) := by decide +kernel
theorem d_FC_isEdge_6 : decode c_FC_isEdge 6 = .ok (.getfield 91, 3) := by decide +kernel
theorem d_FC_isEdge_9 : decode c_FC_isEdge 9 = .ok (.if_icmp .ge 16, 3) := by decide +kernel
theorem d_FC_isEdge_12 : decode c_FC_isEdge 12 = .ok (.iload_n 1, 1) := by decide +kernel
theorem d_FC_isEdge_13 : decode c_FC_isEdge 13 = .ok (.aload_n 0, 1) := by decide +kernel
theorem d_FC_isEdge_14 : decode c_FC_isEdge 14 = .ok (.getfield 43, 3) := by decide +kernel
theorem d_FC_isEdge_17 : decode c_FC_isEdge 17 = .ok (.arraylength, 1) := by decide +kernel
theorem d_FC_isEdge_18 : decode c_FC_isEdge 18 = .ok (.if_icmp .ge 7, 3) := by decide +kernel
theorem d_FC_isEdge_21 : decode c_FC_isEdge 21 = .ok (.iconst 1, 1) := by decide +kernel
theorem d_FC_isEdge_22 : decode c_FC_isEdge 22 = .ok (.goto 4, 3) := by decide +kernel
theorem d_FC_isEdge_25 : decode c_FC_isEdge 25 = .ok (.iconst 0, 1) := by decide +kernel
theorem d_FC_isEdge_26 : decode c_FC_isEdge 26 = .ok (.ireturn, 1) := by decide +kernel
theorem d_FC_numberEdges_0 : decode c_FC_numberEdges 0 = .ok (.aload_n 0, 1) := by decide +kernel
theorem d_FC_numberEdges_1 : decode c_FC_numberEdges 1 = .ok (.iconst 0, 1) := by decide +kernel
theorem d_FC_numberEdges_2 : decode c_FC_numberEdges 2 = .ok (.putfield 91, 3) := by decide +kernel
theorem d_FC_numberEdges_5 : decode c_FC_numberEdges 5 = .ok (.iconst 0, 1) := by decide +kernel
theorem d_FC_numberEdges_6 : decode c_FC_numberEdges 6 = .ok (.istore_n 1, 1) := by decide +kernel
theorem d_FC_numberEdges_7 : decode c_FC_numberEdges 7 = .ok (.iload_n 1, 1) := by decide +kernel
theorem d_FC_numberEdges_8 : decode c_FC_numberEdges 8 = .ok (.aload_n 0, 1) := by decide +kernel
theorem d_FC_numberEdges_9 : decode c_FC_numberEdges 9 = .ok (.getfield 18, 3) := by decide +kernel
theorem d_FC_numberEdges_12 : decode c_FC_numberEdges 12 = .ok (.getfield 39, 3) := by decide +kernel
theorem d_FC_numberEdges_15 : decode c_FC_numberEdges 15 = .ok (.if_icmp .ge 25, 3) := by decide +kernel
theorem d_FC_numberEdges_18 : decode c_FC_numberEdges 18 = .ok (.aload_n 0, 1) := by decide +kernel
theorem d_FC_numberEdges_19 : decode c_FC_numberEdges 19 = .ok (.iload_n 1, 1) := by decide +kernel
theorem d_FC_numberEdges_20 : decode c_FC_numberEdges 20 = .ok (.invokestatic 162, 3) := by decide +kernel
theorem d_FC_numberEdges_23 : decode c_FC_numberEdges 23 = .ok (.invokevirtual 165, 3) := by decide +kernel
theorem d_FC_numberEdges_26 : decode c_FC_numberEdges 26 = .ok (.aload_n 0, 1) := by decide +kernel
theorem d_FC_numberEdges_27 : decode c_FC_numberEdges 27 = .ok (.iload_n 1, 1) := by decide +kernel
theorem d_FC_numberEdges_28 : decode c_FC_numberEdges 28 = .ok (.invokestatic 168, 3) := by decide +kernel
theorem d_FC_numberEdges_31 : decode c_FC_numberEdges 31 = .ok (.invokevirtual 165, 3) := by decide +kernel
theorem d_FC_numberEdges_34 : decode c_FC_numberEdges 34 = .ok (.iinc 1 1, 3) := by decide +kernel
theorem d_FC_numberEdges_37 : decode c_FC_numberEdges 37 = .ok (.goto (-30), 3) := by decide +kernel
theorem d_FC_numberEdges_40 : decode c_FC_numberEdges 40 = .ok (.aload_n 0, 1) := by decide +kernel
theorem d_FC_numberEdges_41 : decode c_FC_numberEdges 41 = .ok (.lconst 0, 1) := by decide +kernel
theorem d_FC_numberEdges_42 : decode c_FC_numberEdges 42 = .ok (.putfield 103, 3) := by decide +kernel
theorem d_FC_numberEdges_45 : decode c_FC_numberEdges 45 = .ok (.aload_n 0, 1) := by decide +kernel
theorem d_FC_numberEdges_46 : decode c_FC_numberEdges 46 = .ok (.lconst 0, 1) := by decide +kernel
theorem d_FC_numberEdges_47 : decode c_FC_numberEdges 47 = .ok (.putfield 106, 3) := by decide +kernel
theorem d_FC_numberEdges_50 : decode c_FC_numberEdges 50 = .ok (.aload_n 0, 1) := by decide +kernel
theorem d_FC_numberEdges_51 : decode c_FC_numberEdges 51 = .ok (.invokevirtual 88, 3) := by decide +kernel
theorem d_FC_numberEdges_54 : decode c_FC_numberEdges 54 = .ok (.return_, 1) := by decide +kernel
theorem d_FC_addSlot_0 : decode c_FC_addSlot 0 = .ok (.aload_n 0, 1) := by decide +kernel
theorem d_FC_addSlot_1 : decode c_FC_addSlot 1 = .ok (.getfield 18, 3) := by decide +kernel
theorem d_FC_addSlot_4 : decode c_FC_addSlot 4 = .ok (.iload_n 1, 1) := by decide +kernel
theorem d_FC_addSlot_5 : decode c_FC_addSlot 5 = .ok (.invokevirtual 171, 3) := by decide +kernel
theorem d_FC_addSlot_8 : decode c_FC_addSlot 8 = .ok (.ifCond .eq 46, 3) := by decide +kernel
theorem d_FC_addSlot_11 : decode c_FC_addSlot 11 = .ok (.aload_n 0, 1) := by decide +kernel
theorem d_FC_addSlot_12 : decode c_FC_addSlot 12 = .ok (.getfield 66, 3) := by decide +kernel
theorem d_FC_addSlot_15 : decode c_FC_addSlot 15 = .ok (.iload_n 1, 1) := by decide +kernel
theorem d_FC_addSlot_16 : decode c_FC_addSlot 16 = .ok (.invokestatic 77, 3) := by decide +kernel
theorem d_FC_addSlot_19 : decode c_FC_addSlot 19 = .ok (.ifCond .ne 35, 3) := by decide +kernel
theorem d_FC_addSlot_22 : decode c_FC_addSlot 22 = .ok (.aload_n 0, 1) := by decide +kernel
theorem d_FC_addSlot_23 : decode c_FC_addSlot 23 = .ok (.getfield 91, 3) := by decide +kernel
theorem d_FC_addSlot_26 : decode c_FC_addSlot 26 = .ok (.aload_n 0, 1) := by decide +kernel
theorem d_FC_addSlot_27 : decode c_FC_addSlot 27 = .ok (.getfield 43, 3) := by decide +kernel
theorem d_FC_addSlot_30 : decode c_FC_addSlot 30 = .ok (.arraylength, 1) := by decide +kernel
theorem d_FC_addSlot_31 : decode c_FC_addSlot 31 = .ok (.if_icmp .ge 23, 3) := by decide +kernel
theorem d_FC_addSlot_34 : decode c_FC_addSlot 34 = .ok (.aload_n 0, 1) := by decide +kernel
theorem d_FC_addSlot_35 : decode c_FC_addSlot 35 = .ok (.getfield 43, 3) := by decide +kernel
theorem d_FC_addSlot_38 : decode c_FC_addSlot 38 = .ok (.aload_n 0, 1) := by decide +kernel
theorem d_FC_addSlot_39 : decode c_FC_addSlot 39 = .ok (.getfield 91, 3) := by decide +kernel
theorem d_FC_addSlot_42 : decode c_FC_addSlot 42 = .ok (.iload_n 1, 1) := by decide +kernel
theorem d_FC_addSlot_43 : decode c_FC_addSlot 43 = .ok (.iastore, 1) := by decide +kernel
theorem d_FC_addSlot_44 : decode c_FC_addSlot 44 = .ok (.aload_n 0, 1) := by decide +kernel
theorem d_FC_addSlot_45 : decode c_FC_addSlot 45 = .ok (.dup, 1) := by decide +kernel
theorem d_FC_addSlot_46 : decode c_FC_addSlot 46 = .ok (.getfield 91, 3) := by decide +kernel
theorem d_FC_addSlot_49 : decode c_FC_addSlot 49 = .ok (.iconst 1, 1) := by decide +kernel
theorem d_FC_addSlot_50 : decode c_FC_addSlot 50 = .ok (.iadd, 1) := by decide +kernel
theorem d_FC_addSlot_51 : decode c_FC_addSlot 51 = .ok (.putfield 91, 3) := by decide +kernel
theorem d_FC_addSlot_54 : decode c_FC_addSlot 54 = .ok (.return_, 1) := by decide +kernel
theorem d_FC_forgetWays_0 : decode c_FC_forgetWays 0 = .ok (.aload_n 0, 1) := by decide +kernel
theorem d_FC_forgetWays_1 : decode c_FC_forgetWays 1 = .ok (.iconst 0, 1) := by decide +kernel
theorem d_FC_forgetWays_2 : decode c_FC_forgetWays 2 = .ok (.putfield 112, 3) := by decide +kernel
theorem d_FC_forgetWays_5 : decode c_FC_forgetWays 5 = .ok (.aload_n 0, 1) := by decide +kernel
theorem d_FC_forgetWays_6 : decode c_FC_forgetWays 6 = .ok (.ldc2_w 47, 3) := by decide +kernel
theorem d_FC_forgetWays_9 : decode c_FC_forgetWays 9 = .ok (.putfield 49, 3) := by decide +kernel
theorem d_FC_forgetWays_12 : decode c_FC_forgetWays 12 = .ok (.return_, 1) := by decide +kernel
theorem d_DG_init_0 : decode c_DG_init 0 = .ok (.aload_n 0, 1) := by decide +kernel
theorem d_DG_init_1 : decode c_DG_init 1 = .ok (.invokespecial 3, 3) := by decide +kernel
theorem d_DG_init_4 : decode c_DG_init 4 = .ok (.aload_n 0, 1) := by decide +kernel
theorem d_DG_init_5 : decode c_DG_init 5 = .ok (.aload_n 1, 1) := by decide +kernel
theorem d_DG_init_6 : decode c_DG_init 6 = .ok (.putfield 9, 3) := by decide +kernel
theorem d_DG_init_9 : decode c_DG_init 9 = .ok (.aload_n 0, 1) := by decide +kernel
theorem d_DG_init_10 : decode c_DG_init 10 = .ok (.iload_n 2, 1) := by decide +kernel
theorem d_DG_init_11 : decode c_DG_init 11 = .ok (.putfield 15, 3) := by decide +kernel
theorem d_DG_init_14 : decode c_DG_init 14 = .ok (.return_, 1) := by decide +kernel
theorem d_DG_firstCode_0 : decode c_DG_firstCode 0 = .ok (.iconst 0, 1) := by decide +kernel
theorem d_DG_firstCode_1 : decode c_DG_firstCode 1 = .ok (.ireturn, 1) := by decide +kernel
theorem d_DG_codeAfter_0 : decode c_DG_codeAfter 0 = .ok (.iload_n 3, 1) := by decide +kernel
theorem d_DG_codeAfter_1 : decode c_DG_codeAfter 1 = .ok (.ifCond .ne 9, 3) := by decide +kernel
theorem d_DG_codeAfter_4 : decode c_DG_codeAfter 4 = .ok (.iload_n 1, 1) := by decide +kernel
theorem d_DG_codeAfter_5 : decode c_DG_codeAfter 5 = .ok (.iconst 1, 1) := by decide +kernel
theorem d_DG_codeAfter_6 : decode c_DG_codeAfter 6 = .ok (.ishl, 1) := by decide +kernel
theorem d_DG_codeAfter_7 : decode c_DG_codeAfter 7 = .ok (.goto 4, 3) := by decide +kernel
theorem d_DG_codeAfter_10 : decode c_DG_codeAfter 10 = .ok (.iload_n 1, 1) := by decide +kernel
theorem d_DG_codeAfter_11 : decode c_DG_codeAfter 11 = .ok (.istore 5, 2) := by decide +kernel
theorem d_DG_codeAfter_13 : decode c_DG_codeAfter 13 = .ok (.aload_n 0, 1) := by decide +kernel
theorem d_DG_codeAfter_14 : decode c_DG_codeAfter 14 = .ok (.getfield 9, 3) := by decide +kernel
theorem d_DG_codeAfter_17 : decode c_DG_codeAfter 17 = .ok (.iload_n 2, 1) := by decide +kernel
theorem d_DG_codeAfter_18 : decode c_DG_codeAfter 18 = .ok (.invokevirtual 19, 3) := by decide +kernel
theorem d_DG_codeAfter_21 : decode c_DG_codeAfter 21 = .ok (.ifCond .eq 10, 3) := by decide +kernel
theorem d_DG_codeAfter_24 : decode c_DG_codeAfter 24 = .ok (.aload_n 0, 1) := by decide +kernel
theorem d_DG_codeAfter_25 : decode c_DG_codeAfter 25 = .ok (.getfield 15, 3) := by decide +kernel
theorem d_DG_codeAfter_28 : decode c_DG_codeAfter 28 = .ok (.goto 4, 3) := by decide +kernel
theorem d_DG_codeAfter_31 : decode c_DG_codeAfter 31 = .ok (.iconst 0, 1) := by decide +kernel
theorem d_DG_codeAfter_32 : decode c_DG_codeAfter 32 = .ok (.istore 6, 2) := by decide +kernel
theorem d_DG_codeAfter_34 : decode c_DG_codeAfter 34 = .ok (.iload 5, 2) := by decide +kernel
theorem d_DG_codeAfter_36 : decode c_DG_codeAfter 36 = .ok (.iload_n 3, 1) := by decide +kernel
theorem d_DG_codeAfter_37 : decode c_DG_codeAfter 37 = .ok (.iushr, 1) := by decide +kernel
theorem d_DG_codeAfter_38 : decode c_DG_codeAfter 38 = .ok (.iconst 3, 1) := by decide +kernel
theorem d_DG_codeAfter_39 : decode c_DG_codeAfter 39 = .ok (.iand, 1) := by decide +kernel
theorem d_DG_codeAfter_40 : decode c_DG_codeAfter 40 = .ok (.invokestatic 25, 3) := by decide +kernel
theorem d_DG_codeAfter_43 : decode c_DG_codeAfter 43 = .ok (.iload 4, 2) := by decide +kernel
theorem d_DG_codeAfter_45 : decode c_DG_codeAfter 45 = .ok (.invokestatic 25, 3) := by decide +kernel
theorem d_DG_codeAfter_48 : decode c_DG_codeAfter 48 = .ok (.iadd, 1) := by decide +kernel
theorem d_DG_codeAfter_49 : decode c_DG_codeAfter 49 = .ok (.iload 6, 2) := by decide +kernel
theorem d_DG_codeAfter_51 : decode c_DG_codeAfter 51 = .ok (.if_icmp .eq 5, 3) := by decide +kernel
theorem d_DG_codeAfter_54 : decode c_DG_codeAfter 54 = .ok (.iconst (-1), 1) := by decide +kernel
theorem d_DG_codeAfter_55 : decode c_DG_codeAfter 55 = .ok (.ireturn, 1) := by decide +kernel
theorem d_DG_codeAfter_56 : decode c_DG_codeAfter 56 = .ok (.iload 5, 2) := by decide +kernel
theorem d_DG_codeAfter_58 : decode c_DG_codeAfter 58 = .ok (.iconst 3, 1) := by decide +kernel
theorem d_DG_codeAfter_59 : decode c_DG_codeAfter 59 = .ok (.iload_n 3, 1) := by decide +kernel
theorem d_DG_codeAfter_60 : decode c_DG_codeAfter 60 = .ok (.ishl, 1) := by decide +kernel
theorem d_DG_codeAfter_61 : decode c_DG_codeAfter 61 = .ok (.iconst (-1), 1) := by decide +kernel
theorem d_DG_codeAfter_62 : decode c_DG_codeAfter 62 = .ok (.ixor, 1) := by decide +kernel
theorem d_DG_codeAfter_63 : decode c_DG_codeAfter 63 = .ok (.iand, 1) := by decide +kernel
theorem d_DG_codeAfter_64 : decode c_DG_codeAfter 64 = .ok (.iload 4, 2) := by decide +kernel
theorem d_DG_codeAfter_66 : decode c_DG_codeAfter 66 = .ok (.iload_n 3, 1) := by decide +kernel
theorem d_DG_codeAfter_67 : decode c_DG_codeAfter 67 = .ok (.ishl, 1) := by decide +kernel
theorem d_DG_codeAfter_68 : decode c_DG_codeAfter 68 = .ok (.ior, 1) := by decide +kernel
theorem d_DG_codeAfter_69 : decode c_DG_codeAfter 69 = .ok (.ireturn, 1) := by decide +kernel
theorem d_DG_isWay_0 : decode c_DG_isWay 0 = .ok (.iload_n 1, 1) := by decide +kernel
theorem d_DG_isWay_1 : decode c_DG_isWay 1 = .ok (.ifCond .ne 7, 3) := by decide +kernel
theorem d_DG_isWay_4 : decode c_DG_isWay 4 = .ok (.iconst 1, 1) := by decide +kernel
theorem d_DG_isWay_5 : decode c_DG_isWay 5 = .ok (.goto 4, 3) := by decide +kernel
theorem d_DG_isWay_8 : decode c_DG_isWay 8 = .ok (.iconst 0, 1) := by decide +kernel
theorem d_DG_isWay_9 : decode c_DG_isWay 9 = .ok (.ireturn, 1) := by decide +kernel
theorem d_LN_init_0 : decode c_LN_init 0 = .ok (.aload_n 0, 1) := by decide +kernel
theorem d_LN_init_1 : decode c_LN_init 1 = .ok (.invokespecial 5, 3) := by decide +kernel
theorem d_LN_init_4 : decode c_LN_init 4 = .ok (.aload_n 0, 1) := by decide +kernel
theorem d_LN_init_5 : decode c_LN_init 5 = .ok (.aload_n 1, 1) := by decide +kernel
theorem d_LN_init_6 : decode c_LN_init 6 = .ok (.putfield 11, 3) := by decide +kernel
theorem d_LN_init_9 : decode c_LN_init 9 = .ok (.aload_n 0, 1) := by decide +kernel
theorem d_LN_init_10 : decode c_LN_init 10 = .ok (.iload_n 2, 1) := by decide +kernel
theorem d_LN_init_11 : decode c_LN_init 11 = .ok (.putfield 15, 3) := by decide +kernel
theorem d_LN_init_14 : decode c_LN_init 14 = .ok (.return_, 1) := by decide +kernel
theorem d_LN_firstCode_0 : decode c_LN_firstCode 0 = .ok (.iconst 0, 1) := by decide +kernel
theorem d_LN_firstCode_1 : decode c_LN_firstCode 1 = .ok (.ireturn, 1) := by decide +kernel
theorem d_LN_isWay_0 : decode c_LN_isWay 0 = .ok (.iload_n 1, 1) := by decide +kernel
theorem d_LN_isWay_1 : decode c_LN_isWay 1 = .ok (.sipush 4096, 3) := by decide +kernel
theorem d_LN_isWay_4 : decode c_LN_isWay 4 = .ok (.if_icmp .ne 7, 3) := by decide +kernel
theorem d_LN_isWay_7 : decode c_LN_isWay 7 = .ok (.iconst 1, 1) := by decide +kernel
theorem d_LN_isWay_8 : decode c_LN_isWay 8 = .ok (.goto 4, 3) := by decide +kernel
theorem d_LN_isWay_11 : decode c_LN_isWay 11 = .ok (.iconst 0, 1) := by decide +kernel
theorem d_LN_isWay_12 : decode c_LN_isWay 12 = .ok (.ireturn, 1) := by decide +kernel
theorem d_LN_codeAfter_0 : decode c_LN_codeAfter 0 = .ok (.iload_n 1, 1) := by decide +kernel
theorem d_LN_codeAfter_1 : decode c_LN_codeAfter 1 = .ok (.sipush 4096, 3) := by decide +kernel
theorem d_LN_codeAfter_4 : decode c_LN_codeAfter 4 = .ok (.if_icmp .ne 16, 3) := by decide +kernel
theorem d_LN_codeAfter_7 : decode c_LN_codeAfter 7 = .ok (.iload 4, 2) := by decide +kernel
theorem d_LN_codeAfter_9 : decode c_LN_codeAfter 9 = .ok (.ifCond .ne 9, 3) := by decide +kernel
theorem d_LN_codeAfter_12 : decode c_LN_codeAfter 12 = .ok (.sipush 4096, 3) := by decide +kernel
theorem d_LN_codeAfter_15 : decode c_LN_codeAfter 15 = .ok (.goto 4, 3) := by decide +kernel
theorem d_LN_codeAfter_18 : decode c_LN_codeAfter 18 = .ok (.iconst (-1), 1) := by decide +kernel
theorem d_LN_codeAfter_19 : decode c_LN_codeAfter 19 = .ok (.ireturn, 1) := by decide +kernel
theorem d_LN_codeAfter_20 : decode c_LN_codeAfter 20 = .ok (.iconst 2, 1) := by decide +kernel
theorem d_LN_codeAfter_21 : decode c_LN_codeAfter 21 = .ok (.iload_n 3, 1) := by decide +kernel
theorem d_LN_codeAfter_22 : decode c_LN_codeAfter 22 = .ok (.imul, 1) := by decide +kernel
theorem d_LN_codeAfter_23 : decode c_LN_codeAfter 23 = .ok (.istore 5, 2) := by decide +kernel
theorem d_LN_codeAfter_25 : decode c_LN_codeAfter 25 = .ok (.iload_n 3, 1) := by decide +kernel
theorem d_LN_codeAfter_26 : decode c_LN_codeAfter 26 = .ok (.ifCond .ne 9, 3) := by decide +kernel
theorem d_LN_codeAfter_29 : decode c_LN_codeAfter 29 = .ok (.iload_n 1, 1) := by decide +kernel
theorem d_LN_codeAfter_30 : decode c_LN_codeAfter 30 = .ok (.iconst 2, 1) := by decide +kernel
theorem d_LN_codeAfter_31 : decode c_LN_codeAfter 31 = .ok (.ishl, 1) := by decide +kernel
theorem d_LN_codeAfter_32 : decode c_LN_codeAfter 32 = .ok (.goto 4, 3) := by decide +kernel
theorem d_LN_codeAfter_35 : decode c_LN_codeAfter 35 = .ok (.iload_n 1, 1) := by decide +kernel
theorem d_LN_codeAfter_36 : decode c_LN_codeAfter 36 = .ok (.istore 6, 2) := by decide +kernel
theorem d_LN_codeAfter_38 : decode c_LN_codeAfter 38 = .ok (.aload_n 0, 1) := by decide +kernel
theorem d_LN_codeAfter_39 : decode c_LN_codeAfter 39 = .ok (.getfield 15, 3) := by decide +kernel
theorem d_LN_codeAfter_42 : decode c_LN_codeAfter 42 = .ok (.ifCond .ne 23, 3) := by decide +kernel
theorem d_LN_codeAfter_45 : decode c_LN_codeAfter 45 = .ok (.aload_n 0, 1) := by decide +kernel
theorem d_LN_codeAfter_46 : decode c_LN_codeAfter 46 = .ok (.getfield 11, 3) := by decide +kernel
theorem d_LN_codeAfter_49 : decode c_LN_codeAfter 49 = .ok (.iload_n 2, 1) := by decide +kernel
theorem d_LN_codeAfter_50 : decode c_LN_codeAfter 50 = .ok (.invokevirtual 19, 3) := by decide +kernel
theorem d_LN_codeAfter_53 : decode c_LN_codeAfter 53 = .ok (.ifCond .eq 12, 3) := by decide +kernel
theorem d_LN_codeAfter_56 : decode c_LN_codeAfter 56 = .ok (.iload 6, 2) := by decide +kernel
theorem d_LN_codeAfter_58 : decode c_LN_codeAfter 58 = .ok (.iload 5, 2) := by decide +kernel
theorem d_LN_codeAfter_60 : decode c_LN_codeAfter 60 = .ok (.invokestatic 25, 3) := by decide +kernel
theorem d_LN_codeAfter_63 : decode c_LN_codeAfter 63 = .ok (.istore 6, 2) := by decide +kernel
theorem d_LN_codeAfter_65 : decode c_LN_codeAfter 65 = .ok (.iload 6, 2) := by decide +kernel
theorem d_LN_codeAfter_67 : decode c_LN_codeAfter 67 = .ok (.iconst (-1), 1) := by decide +kernel
theorem d_LN_codeAfter_68 : decode c_LN_codeAfter 68 = .ok (.if_icmp .ne 5, 3) := by decide +kernel
theorem d_LN_codeAfter_71 : decode c_LN_codeAfter 71 = .ok (.iconst (-1), 1) := by decide +kernel
theorem d_LN_codeAfter_72 : decode c_LN_codeAfter 72 = .ok (.ireturn, 1) := by decide +kernel
theorem d_LN_codeAfter_73 : decode c_LN_codeAfter 73 = .ok (.iload 6, 2) := by decide +kernel
theorem d_LN_codeAfter_75 : decode c_LN_codeAfter 75 = .ok (.iload 5, 2) := by decide +kernel
theorem d_LN_codeAfter_77 : decode c_LN_codeAfter 77 = .ok (.invokestatic 29, 3) := by decide +kernel
theorem d_LN_codeAfter_80 : decode c_LN_codeAfter 80 = .ok (.istore 7, 2) := by decide +kernel
theorem d_LN_codeAfter_82 : decode c_LN_codeAfter 82 = .ok (.iload 6, 2) := by decide +kernel
theorem d_LN_codeAfter_84 : decode c_LN_codeAfter 84 = .ok (.iload 5, 2) := by decide +kernel
theorem d_LN_codeAfter_86 : decode c_LN_codeAfter 86 = .ok (.iconst 2, 1) := by decide +kernel
theorem d_LN_codeAfter_87 : decode c_LN_codeAfter 87 = .ok (.iadd, 1) := by decide +kernel
theorem d_LN_codeAfter_88 : decode c_LN_codeAfter 88 = .ok (.invokestatic 29, 3) := by decide +kernel
theorem d_LN_codeAfter_91 : decode c_LN_codeAfter 91 = .ok (.istore 8, 2) := by decide +kernel
theorem d_LN_codeAfter_93 : decode c_LN_codeAfter 93 = .ok (.iload 6, 2) := by decide +kernel
theorem d_LN_codeAfter_95 : decode c_LN_codeAfter 95 = .ok (.bipush 15, 2) := by decide +kernel
theorem d_LN_codeAfter_97 : decode c_LN_codeAfter 97 = .ok (.iload 5, 2) := by decide +kernel
theorem d_LN_codeAfter_99 : decode c_LN_codeAfter 99 = .ok (.ishl, 1) := by decide +kernel
theorem d_LN_codeAfter_100 : decode c_LN_codeAfter 100 = .ok (.iconst (-1), 1) := by decide +kernel
theorem d_LN_codeAfter_101 : decode c_LN_codeAfter 101 = .ok (.ixor, 1) := by decide +kernel
theorem d_LN_codeAfter_102 : decode c_LN_codeAfter 102 = .ok (.iand, 1) := by decide +kernel
theorem d_LN_codeAfter_103 : decode c_LN_codeAfter 103 = .ok (.istore 9, 2) := by decide +kernel
theorem d_LN_codeAfter_105 : decode c_LN_codeAfter 105 = .ok (.iload 7, 2) := by decide +kernel
theorem d_LN_codeAfter_107 : decode c_LN_codeAfter 107 = .ok (.ifCond .eq 7, 3) := by decide +kernel
theorem d_LN_codeAfter_110 : decode c_LN_codeAfter 110 = .ok (.iconst 1, 1) := by decide +kernel
theorem d_LN_codeAfter_111 : decode c_LN_codeAfter 111 = .ok (.goto 4, 3) := by decide +kernel
theorem d_LN_codeAfter_114 : decode c_LN_codeAfter 114 = .ok (.iconst 0, 1) := by decide +kernel
theorem d_LN_codeAfter_115 : decode c_LN_codeAfter 115 = .ok (.iload 8, 2) := by decide +kernel
theorem d_LN_codeAfter_117 : decode c_LN_codeAfter 117 = .ok (.ifCond .eq 7, 3) := by decide +kernel
theorem d_LN_codeAfter_120 : decode c_LN_codeAfter 120 = .ok (.iconst 1, 1) := by decide +kernel
theorem d_LN_codeAfter_121 : decode c_LN_codeAfter 121 = .ok (.goto 4, 3) := by decide +kernel
theorem d_LN_codeAfter_124 : decode c_LN_codeAfter 124 = .ok (.iconst 0, 1) := by decide +kernel
theorem d_LN_codeAfter_125 : decode c_LN_codeAfter 125 = .ok (.iadd, 1) := by decide +kernel
theorem d_LN_codeAfter_126 : decode c_LN_codeAfter 126 = .ok (.iload 4, 2) := by decide +kernel
theorem d_LN_codeAfter_128 : decode c_LN_codeAfter 128 = .ok (.invokestatic 32, 3) := by decide +kernel
theorem d_LN_codeAfter_131 : decode c_LN_codeAfter 131 = .ok (.iadd, 1) := by decide +kernel
theorem d_LN_codeAfter_132 : decode c_LN_codeAfter 132 = .ok (.istore 10, 2) := by decide +kernel
theorem d_LN_codeAfter_134 : decode c_LN_codeAfter 134 = .ok (.iload 10, 2) := by decide +kernel
theorem d_LN_codeAfter_136 : decode c_LN_codeAfter 136 = .ok (.ifCond .ne 6, 3) := by decide +kernel
theorem d_LN_codeAfter_139 : decode c_LN_codeAfter 139 = .ok (.iload 9, 2) := by decide +kernel
theorem d_LN_codeAfter_141 : decode c_LN_codeAfter 141 = .ok (.ireturn, 1) := by decide +kernel
theorem d_LN_codeAfter_142 : decode c_LN_codeAfter 142 = .ok (.iload 10, 2) := by decide +kernel
theorem d_LN_codeAfter_144 : decode c_LN_codeAfter 144 = .ok (.iconst 2, 1) := by decide +kernel
theorem d_LN_codeAfter_145 : decode c_LN_codeAfter 145 = .ok (.if_icmp .eq 5, 3) := by decide +kernel
theorem d_LN_codeAfter_148 : decode c_LN_codeAfter 148 = .ok (.iconst (-1), 1) := by decide +kernel
theorem d_LN_codeAfter_149 : decode c_LN_codeAfter 149 = .ok (.ireturn, 1) := by decide +kernel
theorem d_LN_codeAfter_150 : decode c_LN_codeAfter 150 = .ok (.iload 4, 2) := by decide +kernel
theorem d_LN_codeAfter_152 : decode c_LN_codeAfter 152 = .ok (.ifCond .ne 12, 3) := by decide +kernel
theorem d_LN_codeAfter_155 : decode c_LN_codeAfter 155 = .ok (.aload_n 0, 1) := by decide +kernel
theorem d_LN_codeAfter_156 : decode c_LN_codeAfter 156 = .ok (.iload 6, 2) := by decide +kernel
theorem d_LN_codeAfter_158 : decode c_LN_codeAfter 158 = .ok (.iload 5, 2) := by decide +kernel
theorem d_LN_codeAfter_160 : decode c_LN_codeAfter 160 = .ok (.invokevirtual 38, 3) := by decide +kernel
theorem d_LN_codeAfter_163 : decode c_LN_codeAfter 163 = .ok (.ireturn, 1) := by decide +kernel
theorem d_LN_codeAfter_164 : decode c_LN_codeAfter 164 = .ok (.iload 4, 2) := by decide +kernel
theorem d_LN_codeAfter_166 : decode c_LN_codeAfter 166 = .ok (.iconst 3, 1) := by decide +kernel
theorem d_LN_codeAfter_167 : decode c_LN_codeAfter 167 = .ok (.if_icmp .ne 18, 3) := by decide +kernel
theorem d_LN_codeAfter_170 : decode c_LN_codeAfter 170 = .ok (.iload 9, 2) := by decide +kernel
theorem d_LN_codeAfter_172 : decode c_LN_codeAfter 172 = .ok (.iconst 1, 1) := by decide +kernel
theorem d_LN_codeAfter_173 : decode c_LN_codeAfter 173 = .ok (.iload 5, 2) := by decide +kernel
theorem d_LN_codeAfter_175 : decode c_LN_codeAfter 175 = .ok (.ishl, 1) := by decide +kernel
theorem d_LN_codeAfter_176 : decode c_LN_codeAfter 176 = .ok (.ior, 1) := by decide +kernel
theorem d_LN_codeAfter_177 : decode c_LN_codeAfter 177 = .ok (.iconst 2, 1) := by decide +kernel
theorem d_LN_codeAfter_178 : decode c_LN_codeAfter 178 = .ok (.iload 5, 2) := by decide +kernel
theorem d_LN_codeAfter_180 : decode c_LN_codeAfter 180 = .ok (.iconst 2, 1) := by decide +kernel
theorem d_LN_codeAfter_181 : decode c_LN_codeAfter 181 = .ok (.iadd, 1) := by decide +kernel
theorem d_LN_codeAfter_182 : decode c_LN_codeAfter 182 = .ok (.ishl, 1) := by decide +kernel
theorem d_LN_codeAfter_183 : decode c_LN_codeAfter 183 = .ok (.ior, 1) := by decide +kernel
theorem d_LN_codeAfter_184 : decode c_LN_codeAfter 184 = .ok (.ireturn, 1) := by decide +kernel
theorem d_LN_codeAfter_185 : decode c_LN_codeAfter 185 = .ok (.iload 9, 2) := by decide +kernel
theorem d_LN_codeAfter_187 : decode c_LN_codeAfter 187 = .ok (.iload 7, 2) := by decide +kernel
theorem d_LN_codeAfter_189 : decode c_LN_codeAfter 189 = .ok (.iload 8, 2) := by decide +kernel
theorem d_LN_codeAfter_191 : decode c_LN_codeAfter 191 = .ok (.ior, 1) := by decide +kernel
theorem d_LN_codeAfter_192 : decode c_LN_codeAfter 192 = .ok (.iload 4, 2) := by decide +kernel
theorem d_LN_codeAfter_194 : decode c_LN_codeAfter 194 = .ok (.iconst 1, 1) := by decide +kernel
theorem d_LN_codeAfter_195 : decode c_LN_codeAfter 195 = .ok (.if_icmp .ne 8, 3) := by decide +kernel
theorem d_LN_codeAfter_198 : decode c_LN_codeAfter 198 = .ok (.iload 5, 2) := by decide +kernel
theorem d_LN_codeAfter_200 : decode c_LN_codeAfter 200 = .ok (.goto 7, 3) := by decide +kernel
theorem d_LN_codeAfter_203 : decode c_LN_codeAfter 203 = .ok (.iload 5, 2) := by decide +kernel
theorem d_LN_codeAfter_205 : decode c_LN_codeAfter 205 = .ok (.iconst 2, 1) := by decide +kernel
theorem d_LN_codeAfter_206 : decode c_LN_codeAfter 206 = .ok (.iadd, 1) := by decide +kernel
theorem d_LN_codeAfter_207 : decode c_LN_codeAfter 207 = .ok (.ishl, 1) := by decide +kernel
theorem d_LN_codeAfter_208 : decode c_LN_codeAfter 208 = .ok (.ior, 1) := by decide +kernel
theorem d_LN_codeAfter_209 : decode c_LN_codeAfter 209 = .ok (.ireturn, 1) := by decide +kernel
theorem d_LN_withEnd_0 : decode c_LN_withEnd 0 = .ok (.iload_n 0, 1) := by decide +kernel
theorem d_LN_withEnd_1 : decode c_LN_withEnd 1 = .ok (.iload_n 1, 1) := by decide +kernel
theorem d_LN_withEnd_2 : decode c_LN_withEnd 2 = .ok (.invokestatic 29, 3) := by decide +kernel
theorem d_LN_withEnd_5 : decode c_LN_withEnd 5 = .ok (.ifCond .ne 9, 3) := by decide +kernel
theorem d_LN_withEnd_8 : decode c_LN_withEnd 8 = .ok (.iload_n 0, 1) := by decide +kernel
theorem d_LN_withEnd_9 : decode c_LN_withEnd 9 = .ok (.iconst 3, 1) := by decide +kernel
theorem d_LN_withEnd_10 : decode c_LN_withEnd 10 = .ok (.iload_n 1, 1) := by decide +kernel
theorem d_LN_withEnd_11 : decode c_LN_withEnd 11 = .ok (.ishl, 1) := by decide +kernel
theorem d_LN_withEnd_12 : decode c_LN_withEnd 12 = .ok (.ior, 1) := by decide +kernel
theorem d_LN_withEnd_13 : decode c_LN_withEnd 13 = .ok (.ireturn, 1) := by decide +kernel
theorem d_LN_withEnd_14 : decode c_LN_withEnd 14 = .ok (.iload_n 0, 1) := by decide +kernel
theorem d_LN_withEnd_15 : decode c_LN_withEnd 15 = .ok (.iload_n 1, 1) := by decide +kernel
theorem d_LN_withEnd_16 : decode c_LN_withEnd 16 = .ok (.iconst 2, 1) := by decide +kernel
theorem d_LN_withEnd_17 : decode c_LN_withEnd 17 = .ok (.iadd, 1) := by decide +kernel
theorem d_LN_withEnd_18 : decode c_LN_withEnd 18 = .ok (.invokestatic 29, 3) := by decide +kernel
theorem d_LN_withEnd_21 : decode c_LN_withEnd 21 = .ok (.ifCond .ne 13, 3) := by decide +kernel
theorem d_LN_withEnd_24 : decode c_LN_withEnd 24 = .ok (.iload_n 0, 1) := by decide +kernel
theorem d_LN_withEnd_25 : decode c_LN_withEnd 25 = .ok (.iconst 3, 1) := by decide +kernel
theorem d_LN_withEnd_26 : decode c_LN_withEnd 26 = .ok (.iload_n 1, 1) := by decide +kernel
theorem d_LN_withEnd_27 : decode c_LN_withEnd 27 = .ok (.iconst 2, 1) := by decide +kernel
theorem d_LN_withEnd_28 : decode c_LN_withEnd 28 = .ok (.iadd, 1) := by decide +kernel
theorem d_LN_withEnd_29 : decode c_LN_withEnd 29 = .ok (.ishl, 1) := by decide +kernel
theorem d_LN_withEnd_30 : decode c_LN_withEnd 30 = .ok (.ior, 1) := by decide +kernel
theorem d_LN_withEnd_31 : decode c_LN_withEnd 31 = .ok (.goto 4, 3) := by decide +kernel
theorem d_LN_withEnd_34 : decode c_LN_withEnd 34 = .ok (.iconst (-1), 1) := by decide +kernel
theorem d_LN_withEnd_35 : decode c_LN_withEnd 35 = .ok (.ireturn, 1) := by decide +kernel
theorem d_LN_joined_0 : decode c_LN_joined 0 = .ok (.iload_n 1, 1) := by decide +kernel
theorem d_LN_joined_1 : decode c_LN_joined 1 = .ok (.iload_n 2, 1) := by decide +kernel
theorem d_LN_joined_2 : decode c_LN_joined 2 = .ok (.invokestatic 29, 3) := by decide +kernel
theorem d_LN_joined_5 : decode c_LN_joined 5 = .ok (.istore_n 3, 1) := by decide +kernel
theorem d_LN_joined_6 : decode c_LN_joined 6 = .ok (.iload_n 1, 1) := by decide +kernel
theorem d_LN_joined_7 : decode c_LN_joined 7 = .ok (.iload_n 2, 1) := by decide +kernel
theorem d_LN_joined_8 : decode c_LN_joined 8 = .ok (.iconst 2, 1) := by decide +kernel
theorem d_LN_joined_9 : decode c_LN_joined 9 = .ok (.iadd, 1) := by decide +kernel
theorem d_LN_joined_10 : decode c_LN_joined 10 = .ok (.invokestatic 29, 3) := by decide +kernel
theorem d_LN_joined_13 : decode c_LN_joined 13 = .ok (.istore 4, 2) := by decide +kernel
theorem d_LN_joined_15 : decode c_LN_joined 15 = .ok (.iload_n 1, 1) := by decide +kernel
theorem d_LN_joined_16 : decode c_LN_joined 16 = .ok (.bipush 15, 2) := by decide +kernel
theorem d_LN_joined_18 : decode c_LN_joined 18 = .ok (.iload_n 2, 1) := by decide +kernel
theorem d_LN_joined_19 : decode c_LN_joined 19 = .ok (.ishl, 1) := by decide +kernel
theorem d_LN_joined_20 : decode c_LN_joined 20 = .ok (.iconst (-1), 1) := by decide +kernel
theorem d_LN_joined_21 : decode c_LN_joined 21 = .ok (.ixor, 1) := by decide +kernel
theorem d_LN_joined_22 : decode c_LN_joined 22 = .ok (.iand, 1) := by decide +kernel
theorem d_LN_joined_23 : decode c_LN_joined 23 = .ok (.istore 5, 2) := by decide +kernel
theorem d_LN_joined_25 : decode c_LN_joined 25 = .ok (.iload_n 3, 1) := by decide +kernel
theorem d_LN_joined_26 : decode c_LN_joined 26 = .ok (.iconst 1, 1) := by decide +kernel
theorem d_LN_joined_27 : decode c_LN_joined 27 = .ok (.if_icmp .ne 13, 3) := by decide +kernel
theorem d_LN_joined_30 : decode c_LN_joined 30 = .ok (.iload 4, 2) := by decide +kernel
theorem d_LN_joined_32 : decode c_LN_joined 32 = .ok (.iconst 2, 1) := by decide +kernel
theorem d_LN_joined_33 : decode c_LN_joined 33 = .ok (.if_icmp .ne 7, 3) := by decide +kernel
theorem d_LN_joined_36 : decode c_LN_joined 36 = .ok (.iconst 1, 1) := by decide +kernel
theorem d_LN_joined_37 : decode c_LN_joined 37 = .ok (.goto 4, 3) := by decide +kernel
theorem d_LN_joined_40 : decode c_LN_joined 40 = .ok (.iconst 0, 1) := by decide +kernel
theorem d_LN_joined_41 : decode c_LN_joined 41 = .ok (.istore 6, 2) := by decide +kernel
theorem d_LN_joined_43 : decode c_LN_joined 43 = .ok (.iload 6, 2) := by decide +kernel
theorem d_LN_joined_45 : decode c_LN_joined 45 = .ok (.ifCond .ne 14, 3) := by decide +kernel
theorem d_LN_joined_48 : decode c_LN_joined 48 = .ok (.iload_n 3, 1) := by decide +kernel
theorem d_LN_joined_49 : decode c_LN_joined 49 = .ok (.iconst 3, 1) := by decide +kernel
theorem d_LN_joined_50 : decode c_LN_joined 50 = .ok (.if_icmp .ne 31, 3) := by decide +kernel
theorem d_LN_joined_53 : decode c_LN_joined 53 = .ok (.iload 4, 2) := by decide +kernel
theorem d_LN_joined_55 : decode c_LN_joined 55 = .ok (.iconst 3, 1) := by decide +kernel
theorem d_LN_joined_56 : decode c_LN_joined 56 = .ok (.if_icmp .ne 25, 3) := by decide +kernel
theorem d_LN_joined_59 : decode c_LN_joined 59 = .ok (.iload 5, 2) := by decide +kernel
theorem d_LN_joined_61 : decode c_LN_joined 61 = .ok (.ifCond .ne 18, 3) := by decide +kernel
theorem d_LN_joined_64 : decode c_LN_joined 64 = .ok (.iload 6, 2) := by decide +kernel
theorem d_LN_joined_66 : decode c_LN_joined 66 = .ok (.aload_n 0, 1) := by decide +kernel
theorem d_LN_joined_67 : decode c_LN_joined 67 = .ok (.getfield 15, 3) := by decide +kernel
theorem d_LN_joined_70 : decode c_LN_joined 70 = .ok (.if_icmp .ne 9, 3) := by decide +kernel
theorem d_LN_joined_73 : decode c_LN_joined 73 = .ok (.sipush 4096, 3) := by decide +kernel
theorem d_LN_joined_76 : decode c_LN_joined 76 = .ok (.goto 4, 3) := by decide +kernel
theorem d_LN_joined_79 : decode c_LN_joined 79 = .ok (.iconst (-1), 1) := by decide +kernel
theorem d_LN_joined_80 : decode c_LN_joined 80 = .ok (.ireturn, 1) := by decide +kernel
theorem d_LN_joined_81 : decode c_LN_joined 81 = .ok (.iload_n 3, 1) := by decide +kernel
theorem d_LN_joined_82 : decode c_LN_joined 82 = .ok (.iconst 2, 1) := by decide +kernel
theorem d_LN_joined_83 : decode c_LN_joined 83 = .ok (.if_icmp .ne 12, 3) := by decide +kernel
theorem d_LN_joined_86 : decode c_LN_joined 86 = .ok (.iload 4, 2) := by decide +kernel
theorem d_LN_joined_88 : decode c_LN_joined 88 = .ok (.iconst 1, 1) := by decide +kernel
theorem d_LN_joined_89 : decode c_LN_joined 89 = .ok (.if_icmp .ne 6, 3) := by decide +kernel
theorem d_LN_joined_92 : decode c_LN_joined 92 = .ok (.iload 5, 2) := by decide +kernel
theorem d_LN_joined_94 : decode c_LN_joined 94 = .ok (.ireturn, 1) := by decide +kernel
theorem d_LN_joined_95 : decode c_LN_joined 95 = .ok (.iload_n 3, 1) := by decide +kernel
theorem d_LN_joined_96 : decode c_LN_joined 96 = .ok (.iconst 3, 1) := by decide +kernel
theorem d_LN_joined_97 : decode c_LN_joined 97 = .ok (.if_icmp .ne 14, 3) := by decide +kernel
theorem d_LN_joined_100 : decode c_LN_joined 100 = .ok (.iload_n 1, 1) := by decide +kernel
theorem d_LN_joined_101 : decode c_LN_joined 101 = .ok (.iload 5, 2) := by decide +kernel
theorem d_LN_joined_103 : decode c_LN_joined 103 = .ok (.iload_n 2, 1) := by decide +kernel
theorem d_LN_joined_104 : decode c_LN_joined 104 = .ok (.iconst 2, 1) := by decide +kernel
theorem d_LN_joined_105 : decode c_LN_joined 105 = .ok (.iadd, 1) := by decide +kernel
theorem d_LN_joined_106 : decode c_LN_joined 106 = .ok (.iconst 3, 1) := by decide +kernel
theorem d_LN_joined_107 : decode c_LN_joined 107 = .ok (.invokestatic 41, 3) := by decide +kernel
theorem d_LN_joined_110 : decode c_LN_joined 110 = .ok (.ireturn, 1) := by decide +kernel
theorem d_LN_joined_111 : decode c_LN_joined 111 = .ok (.iload 4, 2) := by decide +kernel
theorem d_LN_joined_113 : decode c_LN_joined 113 = .ok (.iconst 3, 1) := by decide +kernel
theorem d_LN_joined_114 : decode c_LN_joined 114 = .ok (.if_icmp .ne 12, 3) := by decide +kernel
theorem d_LN_joined_117 : decode c_LN_joined 117 = .ok (.iload_n 1, 1) := by decide +kernel
theorem d_LN_joined_118 : decode c_LN_joined 118 = .ok (.iload 5, 2) := by decide +kernel
theorem d_LN_joined_120 : decode c_LN_joined 120 = .ok (.iload_n 2, 1) := by decide +kernel
theorem d_LN_joined_121 : decode c_LN_joined 121 = .ok (.iconst 3, 1) := by decide +kernel
theorem d_LN_joined_122 : decode c_LN_joined 122 = .ok (.invokestatic 41, 3) := by decide +kernel
theorem d_LN_joined_125 : decode c_LN_joined 125 = .ok (.ireturn, 1) := by decide +kernel
theorem d_LN_joined_126 : decode c_LN_joined 126 = .ok (.iload_n 1, 1) := by decide +kernel
theorem d_LN_joined_127 : decode c_LN_joined 127 = .ok (.iload 5, 2) := by decide +kernel
theorem d_LN_joined_129 : decode c_LN_joined 129 = .ok (.iload_n 3, 1) := by decide +kernel
theorem d_LN_joined_130 : decode c_LN_joined 130 = .ok (.iconst 1, 1) := by decide +kernel
theorem d_LN_joined_131 : decode c_LN_joined 131 = .ok (.if_icmp .ne 9, 3) := by decide +kernel
theorem d_LN_joined_134 : decode c_LN_joined 134 = .ok (.iload_n 2, 1) := by decide +kernel
theorem d_LN_joined_135 : decode c_LN_joined 135 = .ok (.iconst 2, 1) := by decide +kernel
theorem d_LN_joined_136 : decode c_LN_joined 136 = .ok (.iadd, 1) := by decide +kernel
theorem d_LN_joined_137 : decode c_LN_joined 137 = .ok (.goto 4, 3) := by decide +kernel
theorem d_LN_joined_140 : decode c_LN_joined 140 = .ok (.iload_n 2, 1) := by decide +kernel
theorem d_LN_joined_141 : decode c_LN_joined 141 = .ok (.iload_n 3, 1) := by decide +kernel
theorem d_LN_joined_142 : decode c_LN_joined 142 = .ok (.invokestatic 41, 3) := by decide +kernel
theorem d_LN_joined_145 : decode c_LN_joined 145 = .ok (.ireturn, 1) := by decide +kernel
