theorem d_GR_init_0 : decode c_GR_init 0 = .ok (.aload_n 0, 1) := by decide +kernel
theorem d_GR_init_1 : decode c_GR_init 1 = .ok (.invokespecial 3, 3) := by decide +kernel
theorem d_GR_init_4 : decode c_GR_init 4 = .ok (.aload_n 0, 1) := by decide +kernel
theorem d_GR_init_5 : decode c_GR_init 5 = .ok (.iload_n 1, 1) := by decide +kernel
theorem d_GR_init_6 : decode c_GR_init 6 = .ok (.putfield 9, 3) := by decide +kernel
theorem d_GR_init_9 : decode c_GR_init 9 = .ok (.aload_n 0, 1) := by decide +kernel
theorem d_GR_init_10 : decode c_GR_init 10 = .ok (.iload_n 2, 1) := by decide +kernel
theorem d_GR_init_11 : decode c_GR_init 11 = .ok (.putfield 15, 3) := by decide +kernel
theorem d_GR_init_14 : decode c_GR_init 14 = .ok (.aload_n 0, 1) := by decide +kernel
theorem d_GR_init_15 : decode c_GR_init 15 = .ok (.iload_n 1, 1) := by decide +kernel
theorem d_GR_init_16 : decode c_GR_init 16 = .ok (.iload_n 2, 1) := by decide +kernel
theorem d_GR_init_17 : decode c_GR_init 17 = .ok (.imul, 1) := by decide +kernel
theorem d_GR_init_18 : decode c_GR_init 18 = .ok (.putfield 18, 3) := by decide +kernel
theorem d_GR_init_21 : decode c_GR_init 21 = .ok (.aload_n 0, 1) := by decide +kernel
theorem d_GR_init_22 : decode c_GR_init 22 = .ok (.iconst (-1), 1) := by decide +kernel
theorem d_GR_init_23 : decode c_GR_init 23 = .ok (.putfield 21, 3) := by decide +kernel
theorem d_GR_init_26 : decode c_GR_init 26 = .ok (.aload_n 0, 1) := by decide +kernel
theorem d_GR_init_27 : decode c_GR_init 27 = .ok (.iconst (-1), 1) := by decide +kernel
theorem d_GR_init_28 : decode c_GR_init 28 = .ok (.putfield 24, 3) := by decide +kernel
theorem d_GR_init_31 : decode c_GR_init 31 = .ok (.aload_n 0, 1) := by decide +kernel
theorem d_GR_init_32 : decode c_GR_init 32 = .ok (.invokevirtual 27, 3) := by decide +kernel
theorem d_GR_init_35 : decode c_GR_init 35 = .ok (.return_, 1) := by decide +kernel
theorem d_GR_belowOf_0 : decode c_GR_belowOf 0 = .ok (.iconst 2, 1) := by decide +kernel
theorem d_GR_belowOf_1 : decode c_GR_belowOf 1 = .ok (.iload_n 0, 1) := by decide +kernel
theorem d_GR_belowOf_2 : decode c_GR_belowOf 2 = .ok (.imul, 1) := by decide +kernel
theorem d_GR_belowOf_3 : decode c_GR_belowOf 3 = .ok (.ireturn, 1) := by decide +kernel
theorem d_GR_rightOf_0 : decode c_GR_rightOf 0 = .ok (.iconst 2, 1) := by decide +kernel
theorem d_GR_rightOf_1 : decode c_GR_rightOf 1 = .ok (.iload_n 0, 1) := by decide +kernel
theorem d_GR_rightOf_2 : decode c_GR_rightOf 2 = .ok (.imul, 1) := by decide +kernel
theorem d_GR_rightOf_3 : decode c_GR_rightOf 3 = .ok (.iconst 1, 1) := by decide +kernel
theorem d_GR_rightOf_4 : decode c_GR_rightOf 4 = .ok (.iadd, 1) := by decide +kernel
theorem d_GR_rightOf_5 : decode c_GR_rightOf 5 = .ok (.ireturn, 1) := by decide +kernel
theorem d_GR_inside_0 : decode c_GR_inside 0 = .ok (.iload_n 1, 1) := by decide +kernel
theorem d_GR_inside_1 : decode c_GR_inside 1 = .ok (.ifCond .lt 15, 3) := by decide +kernel
theorem d_GR_inside_4 : decode c_GR_inside 4 = .ok (.iload_n 1, 1) := by decide +kernel
theorem d_GR_inside_5 : decode c_GR_inside 5 = .ok (.aload_n 0, 1) := by decide +kernel
theorem d_GR_inside_6 : decode c_GR_inside 6 = .ok (.getfield 18, 3) := by decide +kernel
theorem d_GR_inside_9 : decode c_GR_inside 9 = .ok (.if_icmp .ge 7, 3) := by decide +kernel
theorem d_GR_inside_12 : decode c_GR_inside 12 = .ok (.iconst 1, 1) := by decide +kernel
theorem d_GR_inside_13 : decode c_GR_inside 13 = .ok (.goto 4, 3) := by decide +kernel
theorem d_GR_inside_16 : decode c_GR_inside 16 = .ok (.iconst 0, 1) := by decide +kernel
theorem d_GR_inside_17 : decode c_GR_inside 17 = .ok (.ireturn, 1) := by decide +kernel
theorem d_GR_isPlace_0 : decode c_GR_isPlace 0 = .ok (.aload_n 0, 1) := by decide +kernel
theorem d_GR_isPlace_1 : decode c_GR_isPlace 1 = .ok (.iload_n 1, 1) := by decide +kernel
theorem d_GR_isPlace_2 : decode c_GR_isPlace 2 = .ok (.invokevirtual 30, 3) := by decide +kernel
theorem d_GR_isPlace_5 : decode c_GR_isPlace 5 = .ok (.ifCond .eq 18, 3) := by decide +kernel
theorem d_GR_isPlace_8 : decode c_GR_isPlace 8 = .ok (.aload_n 0, 1) := by decide +kernel
theorem d_GR_isPlace_9 : decode c_GR_isPlace 9 = .ok (.getfield 34, 3) := by decide +kernel
theorem d_GR_isPlace_12 : decode c_GR_isPlace 12 = .ok (.iload_n 1, 1) := by decide +kernel
theorem d_GR_isPlace_13 : decode c_GR_isPlace 13 = .ok (.iushr, 1) := by decide +kernel
theorem d_GR_isPlace_14 : decode c_GR_isPlace 14 = .ok (.iconst 1, 1) := by decide +kernel
theorem d_GR_isPlace_15 : decode c_GR_isPlace 15 = .ok (.iand, 1) := by decide +kernel
theorem d_GR_isPlace_16 : decode c_GR_isPlace 16 = .ok (.ifCond .ne 7, 3) := by decide +kernel
theorem d_GR_isPlace_19 : decode c_GR_isPlace 19 = .ok (.iconst 1, 1) := by decide +kernel
theorem d_GR_isPlace_20 : decode c_GR_isPlace 20 = .ok (.goto 4, 3) := by decide +kernel
theorem d_GR_isPlace_23 : decode c_GR_isPlace 23 = .ok (.iconst 0, 1) := by decide +kernel
theorem d_GR_isPlace_24 : decode c_GR_isPlace 24 = .ok (.ireturn, 1) := by decide +kernel
theorem d_GR_isEnd_0 : decode c_GR_isEnd 0 = .ok (.iload_n 1, 1) := by decide +kernel
theorem d_GR_isEnd_1 : decode c_GR_isEnd 1 = .ok (.aload_n 0, 1) := by decide +kernel
theorem d_GR_isEnd_2 : decode c_GR_isEnd 2 = .ok (.getfield 21, 3) := by decide +kernel
theorem d_GR_isEnd_5 : decode c_GR_isEnd 5 = .ok (.if_icmp .eq 11, 3) := by decide +kernel
theorem d_GR_isEnd_8 : decode c_GR_isEnd 8 = .ok (.iload_n 1, 1) := by decide +kernel
theorem d_GR_isEnd_9 : decode c_GR_isEnd 9 = .ok (.aload_n 0, 1) := by decide +kernel
theorem d_GR_isEnd_10 : decode c_GR_isEnd 10 = .ok (.getfield 24, 3) := by decide +kernel
theorem d_GR_isEnd_13 : decode c_GR_isEnd 13 = .ok (.if_icmp .ne 7, 3) := by decide +kernel
theorem d_GR_isEnd_16 : decode c_GR_isEnd 16 = .ok (.iconst 1, 1) := by decide +kernel
theorem d_GR_isEnd_17 : decode c_GR_isEnd 17 = .ok (.goto 4, 3) := by decide +kernel
theorem d_GR_isEnd_20 : decode c_GR_isEnd 20 = .ok (.iconst 0, 1) := by decide +kernel
theorem d_GR_isEnd_21 : decode c_GR_isEnd 21 = .ok (.ireturn, 1) := by decide +kernel
theorem d_GR_isOpen_0 : decode c_GR_isOpen 0 = .ok (.aload_n 0, 1) := by decide +kernel
theorem d_GR_isOpen_1 : decode c_GR_isOpen 1 = .ok (.getfield 37, 3) := by decide +kernel
theorem d_GR_isOpen_4 : decode c_GR_isOpen 4 = .ok (.iload_n 1, 1) := by decide +kernel
theorem d_GR_isOpen_5 : decode c_GR_isOpen 5 = .ok (.invokestatic 41, 3) := by decide +kernel
theorem d_GR_isOpen_8 : decode c_GR_isOpen 8 = .ok (.ireturn, 1) := by decide +kernel
theorem d_GR_openChoices_0 : decode c_GR_openChoices 0 = .ok (.aload_n 0, 1) := by decide +kernel
theorem d_GR_openChoices_1 : decode c_GR_openChoices 1 = .ok (.getfield 37, 3) := by decide +kernel
theorem d_GR_openChoices_4 : decode c_GR_openChoices 4 = .ok (.iload_n 1, 1) := by decide +kernel
theorem d_GR_openChoices_5 : decode c_GR_openChoices 5 = .ok (.invokestatic 45, 3) := by decide +kernel
theorem d_GR_openChoices_8 : decode c_GR_openChoices 8 = .ok (.lushr, 1) := by decide +kernel
theorem d_GR_openChoices_9 : decode c_GR_openChoices 9 = .ok (.l2i, 1) := by decide +kernel
theorem d_GR_openChoices_10 : decode c_GR_openChoices 10 = .ok (.iconst 3, 1) := by decide +kernel
theorem d_GR_openChoices_11 : decode c_GR_openChoices 11 = .ok (.iand, 1) := by decide +kernel
theorem d_GR_openChoices_12 : decode c_GR_openChoices 12 = .ok (.ireturn, 1) := by decide +kernel
theorem d_GR_turnHole_0 : decode c_GR_turnHole 0 = .ok (.aload_n 0, 1) := by decide +kernel
theorem d_GR_turnHole_1 : decode c_GR_turnHole 1 = .ok (.dup, 1) := by decide +kernel
theorem d_GR_turnHole_2 : decode c_GR_turnHole 2 = .ok (.getfield 34, 3) := by decide +kernel
theorem d_GR_turnHole_5 : decode c_GR_turnHole 5 = .ok (.iconst 1, 1) := by decide +kernel
theorem d_GR_turnHole_6 : decode c_GR_turnHole 6 = .ok (.iload_n 1, 1) := by decide +kernel
theorem d_GR_turnHole_7 : decode c_GR_turnHole 7 = .ok (.ishl, 1) := by decide +kernel
theorem d_GR_turnHole_8 : decode c_GR_turnHole 8 = .ok (.ixor, 1) := by decide +kernel
theorem d_GR_turnHole_9 : decode c_GR_turnHole 9 = .ok (.putfield 34, 3) := by decide +kernel
theorem d_GR_turnHole_12 : decode c_GR_turnHole 12 = .ok (.aload_n 0, 1) := by decide +kernel
theorem d_GR_turnHole_13 : decode c_GR_turnHole 13 = .ok (.invokevirtual 27, 3) := by decide +kernel
theorem d_GR_turnHole_16 : decode c_GR_turnHole 16 = .ok (.return_, 1) := by decide +kernel
theorem d_GR_tellEnds_0 : decode c_GR_tellEnds 0 = .ok (.aload_n 0, 1) := by decide +kernel
theorem d_GR_tellEnds_1 : decode c_GR_tellEnds 1 = .ok (.iload_n 1, 1) := by decide +kernel
theorem d_GR_tellEnds_2 : decode c_GR_tellEnds 2 = .ok (.putfield 21, 3) := by decide +kernel
theorem d_GR_tellEnds_5 : decode c_GR_tellEnds 5 = .ok (.aload_n 0, 1) := by decide +kernel
theorem d_GR_tellEnds_6 : decode c_GR_tellEnds 6 = .ok (.iload_n 2, 1) := by decide +kernel
theorem d_GR_tellEnds_7 : decode c_GR_tellEnds 7 = .ok (.putfield 24, 3) := by decide +kernel
theorem d_GR_tellEnds_10 : decode c_GR_tellEnds 10 = .ok (.return_, 1) := by decide +kernel
theorem d_GR_findOpenSlots_0 : decode c_GR_findOpenSlots 0 = .ok (.aload_n 0, 1) := by decide +kernel
theorem d_GR_findOpenSlots_1 : decode c_GR_findOpenSlots 1 = .ok (.lconst 0, 1) := by decide +kernel
theorem d_GR_findOpenSlots_2 : decode c_GR_findOpenSlots 2 = .ok (.putfield 37, 3) := by decide +kernel
theorem d_GR_findOpenSlots_5 : decode c_GR_findOpenSlots 5 = .ok (.aload_n 0, 1) := by decide +kernel
theorem d_GR_findOpenSlots_6 : decode c_GR_findOpenSlots 6 = .ok (.iconst (-1), 1) := by decide +kernel
theorem d_GR_findOpenSlots_7 : decode c_GR_findOpenSlots 7 = .ok (.putfield 49, 3) := by decide +kernel
theorem d_GR_findOpenSlots_10 : decode c_GR_findOpenSlots 10 = .ok (.iconst 0, 1) := by decide +kernel
theorem d_GR_findOpenSlots_11 : decode c_GR_findOpenSlots 11 = .ok (.istore_n 1, 1) := by decide +kernel
theorem d_GR_findOpenSlots_12 : decode c_GR_findOpenSlots 12 = .ok (.iload_n 1, 1) := by decide +kernel
theorem d_GR_findOpenSlots_13 : decode c_GR_findOpenSlots 13 = .ok (.aload_n 0, 1) := by decide +kernel
theorem d_GR_findOpenSlots_14 : decode c_GR_findOpenSlots 14 = .ok (.getfield 15, 3) := by decide +kernel
theorem d_GR_findOpenSlots_17 : decode c_GR_findOpenSlots 17 = .ok (.if_icmp .ge 52, 3) := by decide +kernel
theorem d_GR_findOpenSlots_20 : decode c_GR_findOpenSlots 20 = .ok (.iconst 0, 1) := by decide +kernel
theorem d_GR_findOpenSlots_21 : decode c_GR_findOpenSlots 21 = .ok (.istore_n 2, 1) := by decide +kernel
theorem d_GR_findOpenSlots_22 : decode c_GR_findOpenSlots 22 = .ok (.iload_n 2, 1) := by decide +kernel
theorem d_GR_findOpenSlots_23 : decode c_GR_findOpenSlots 23 = .ok (.aload_n 0, 1) := by decide +kernel
theorem d_GR_findOpenSlots_24 : decode c_GR_findOpenSlots 24 = .ok (.getfield 9, 3) := by decide +kernel
theorem d_GR_findOpenSlots_27 : decode c_GR_findOpenSlots 27 = .ok (.if_icmp .ge 36, 3) := by decide +kernel
theorem d_GR_findOpenSlots_30 : decode c_GR_findOpenSlots 30 = .ok (.aload_n 0, 1) := by decide +kernel
theorem d_GR_findOpenSlots_31 : decode c_GR_findOpenSlots 31 = .ok (.iload_n 2, 1) := by decide +kernel
theorem d_GR_findOpenSlots_32 : decode c_GR_findOpenSlots 32 = .ok (.aload_n 0, 1) := by decide +kernel
theorem d_GR_findOpenSlots_33 : decode c_GR_findOpenSlots 33 = .ok (.getfield 9, 3) := by decide +kernel
theorem d_GR_findOpenSlots_36 : decode c_GR_findOpenSlots 36 = .ok (.iload_n 1, 1) := by decide +kernel
theorem d_GR_findOpenSlots_37 : decode c_GR_findOpenSlots 37 = .ok (.imul, 1) := by decide +kernel
theorem d_GR_findOpenSlots_38 : decode c_GR_findOpenSlots 38 = .ok (.iadd, 1) := by decide +kernel
theorem d_GR_findOpenSlots_39 : decode c_GR_findOpenSlots 39 = .ok (.iload_n 2, 1) := by decide +kernel
theorem d_GR_findOpenSlots_40 : decode c_GR_findOpenSlots 40 = .ok (.iconst 1, 1) := by decide +kernel
theorem d_GR_findOpenSlots_41 : decode c_GR_findOpenSlots 41 = .ok (.iadd, 1) := by decide +kernel
theorem d_GR_findOpenSlots_42 : decode c_GR_findOpenSlots 42 = .ok (.aload_n 0, 1) := by decide +kernel
theorem d_GR_findOpenSlots_43 : decode c_GR_findOpenSlots 43 = .ok (.getfield 9, 3) := by decide +kernel
theorem d_GR_findOpenSlots_46 : decode c_GR_findOpenSlots 46 = .ok (.if_icmp .ge 7, 3) := by decide +kernel
theorem d_GR_findOpenSlots_49 : decode c_GR_findOpenSlots 49 = .ok (.iconst 1, 1) := by decide +kernel
theorem d_GR_findOpenSlots_50 : decode c_GR_findOpenSlots 50 = .ok (.goto 4, 3) := by decide +kernel
theorem d_GR_findOpenSlots_53 : decode c_GR_findOpenSlots 53 = .ok (.iconst 0, 1) := by decide +kernel
theorem d_GR_findOpenSlots_54 : decode c_GR_findOpenSlots 54 = .ok (.invokevirtual 52, 3) := by decide +kernel
theorem d_GR_findOpenSlots_57 : decode c_GR_findOpenSlots 57 = .ok (.iinc 2 1, 3) := by decide +kernel
theorem d_GR_findOpenSlots_60 : decode c_GR_findOpenSlots 60 = .ok (.goto (-38), 3) := by decide +kernel
theorem d_GR_findOpenSlots_63 : decode c_GR_findOpenSlots 63 = .ok (.iinc 1 1, 3) := by decide +kernel
theorem d_GR_findOpenSlots_66 : decode c_GR_findOpenSlots 66 = .ok (.goto (-54), 3) := by decide +kernel
theorem d_GR_findOpenSlots_69 : decode c_GR_findOpenSlots 69 = .ok (.return_, 1) := by decide +kernel
theorem d_GR_openSlotsAt_0 : decode c_GR_openSlotsAt 0 = .ok (.aload_n 0, 1) := by decide +kernel
theorem d_GR_openSlotsAt_1 : decode c_GR_openSlotsAt 1 = .ok (.iload_n 1, 1) := by decide +kernel
theorem d_GR_openSlotsAt_2 : decode c_GR_openSlotsAt 2 = .ok (.invokevirtual 56, 3) := by decide +kernel
theorem d_GR_openSlotsAt_5 : decode c_GR_openSlotsAt 5 = .ok (.ifCond .ne 4, 3) := by decide +kernel
theorem d_GR_openSlotsAt_8 : decode c_GR_openSlotsAt 8 = .ok (.return_, 1) := by decide +kernel
theorem d_GR_openSlotsAt_9 : decode c_GR_openSlotsAt 9 = .ok (.aload_n 0, 1) := by decide +kernel
theorem d_GR_openSlotsAt_10 : decode c_GR_openSlotsAt 10 = .ok (.iload_n 1, 1) := by decide +kernel
theorem d_GR_openSlotsAt_11 : decode c_GR_openSlotsAt 11 = .ok (.putfield 49, 3) := by decide +kernel
theorem d_GR_openSlotsAt_14 : decode c_GR_openSlotsAt 14 = .ok (.iload_n 2, 1) := by decide +kernel
theorem d_GR_openSlotsAt_15 : decode c_GR_openSlotsAt 15 = .ok (.ifCond .eq 28, 3) := by decide +kernel
theorem d_GR_openSlotsAt_18 : decode c_GR_openSlotsAt 18 = .ok (.aload_n 0, 1) := by decide +kernel
theorem d_GR_openSlotsAt_19 : decode c_GR_openSlotsAt 19 = .ok (.iload_n 1, 1) := by decide +kernel
theorem d_GR_openSlotsAt_20 : decode c_GR_openSlotsAt 20 = .ok (.iconst 1, 1) := by decide +kernel
theorem d_GR_openSlotsAt_21 : decode c_GR_openSlotsAt 21 = .ok (.iadd, 1) := by decide +kernel
theorem d_GR_openSlotsAt_22 : decode c_GR_openSlotsAt 22 = .ok (.invokevirtual 56, 3) := by decide +kernel
theorem d_GR_openSlotsAt_25 : decode c_GR_openSlotsAt 25 = .ok (.ifCond .eq 18, 3) := by decide +kernel
theorem d_GR_openSlotsAt_28 : decode c_GR_openSlotsAt 28 = .ok (.aload_n 0, 1) := by decide +kernel
theorem d_GR_openSlotsAt_29 : decode c_GR_openSlotsAt 29 = .ok (.dup, 1) := by decide +kernel
theorem d_GR_openSlotsAt_30 : decode c_GR_openSlotsAt 30 = .ok (.getfield 37, 3) := by decide +kernel
theorem d_GR_openSlotsAt_33 : decode c_GR_openSlotsAt 33 = .ok (.lconst 1, 1) := by decide +kernel
theorem d_GR_openSlotsAt_34 : decode c_GR_openSlotsAt 34 = .ok (.iload_n 1, 1) := by decide +kernel
theorem d_GR_openSlotsAt_35 : decode c_GR_openSlotsAt 35 = .ok (.invokestatic 59, 3) := by decide +kernel
theorem d_GR_openSlotsAt_38 : decode c_GR_openSlotsAt 38 = .ok (.lshl, 1) := by decide +kernel
theorem d_GR_openSlotsAt_39 : decode c_GR_openSlotsAt 39 = .ok (.lor, 1) := by decide +kernel
theorem d_GR_openSlotsAt_40 : decode c_GR_openSlotsAt 40 = .ok (.putfield 37, 3) := by decide +kernel
theorem d_GR_openSlotsAt_43 : decode c_GR_openSlotsAt 43 = .ok (.aload_n 0, 1) := by decide +kernel
theorem d_GR_openSlotsAt_44 : decode c_GR_openSlotsAt 44 = .ok (.iload_n 1, 1) := by decide +kernel
theorem d_GR_openSlotsAt_45 : decode c_GR_openSlotsAt 45 = .ok (.aload_n 0, 1) := by decide +kernel
theorem d_GR_openSlotsAt_46 : decode c_GR_openSlotsAt 46 = .ok (.getfield 9, 3) := by decide +kernel
theorem d_GR_openSlotsAt_49 : decode c_GR_openSlotsAt 49 = .ok (.iadd, 1) := by decide +kernel
theorem d_GR_openSlotsAt_50 : decode c_GR_openSlotsAt 50 = .ok (.invokevirtual 56, 3) := by decide +kernel
theorem d_GR_openSlotsAt_53 : decode c_GR_openSlotsAt 53 = .ok (.ifCond .eq 18, 3) := by decide +kernel
theorem d_GR_openSlotsAt_56 : decode c_GR_openSlotsAt 56 = .ok (.aload_n 0, 1) := by decide +kernel
theorem d_GR_openSlotsAt_57 : decode c_GR_openSlotsAt 57 = .ok (.dup, 1) := by decide +kernel
theorem d_GR_openSlotsAt_58 : decode c_GR_openSlotsAt 58 = .ok (.getfield 37, 3) := by decide +kernel
theorem d_GR_openSlotsAt_61 : decode c_GR_openSlotsAt 61 = .ok (.lconst 1, 1) := by decide +kernel
theorem d_GR_openSlotsAt_62 : decode c_GR_openSlotsAt 62 = .ok (.iload_n 1, 1) := by decide +kernel
theorem d_GR_openSlotsAt_63 : decode c_GR_openSlotsAt 63 = .ok (.invokestatic 45, 3) := by decide +kernel
theorem d_GR_openSlotsAt_66 : decode c_GR_openSlotsAt 66 = .ok (.lshl, 1) := by decide +kernel
theorem d_GR_openSlotsAt_67 : decode c_GR_openSlotsAt 67 = .ok (.lor, 1) := by decide +kernel
theorem d_GR_openSlotsAt_68 : decode c_GR_openSlotsAt 68 = .ok (.putfield 37, 3) := by decide +kernel
theorem d_GR_openSlotsAt_71 : decode c_GR_openSlotsAt 71 = .ok (.return_, 1) := by decide +kernel
theorem d_GR_slotBetween_0 : decode c_GR_slotBetween 0 = .ok (.aload_n 0, 1) := by decide +kernel
theorem d_GR_slotBetween_1 : decode c_GR_slotBetween 1 = .ok (.iload_n 1, 1) := by decide +kernel
theorem d_GR_slotBetween_2 : decode c_GR_slotBetween 2 = .ok (.invokevirtual 30, 3) := by decide +kernel
theorem d_GR_slotBetween_5 : decode c_GR_slotBetween 5 = .ok (.ifCond .eq 11, 3) := by decide +kernel
theorem d_GR_slotBetween_8 : decode c_GR_slotBetween 8 = .ok (.aload_n 0, 1) := by decide +kernel
theorem d_GR_slotBetween_9 : decode c_GR_slotBetween 9 = .ok (.iload_n 2, 1) := by decide +kernel
theorem d_GR_slotBetween_10 : decode c_GR_slotBetween 10 = .ok (.invokevirtual 30, 3) := by decide +kernel
theorem d_GR_slotBetween_13 : decode c_GR_slotBetween 13 = .ok (.ifCond .ne 5, 3) := by decide +kernel
theorem d_GR_slotBetween_16 : decode c_GR_slotBetween 16 = .ok (.iconst (-1), 1) := by decide +kernel
theorem d_GR_slotBetween_17 : decode c_GR_slotBetween 17 = .ok (.ireturn, 1) := by decide +kernel
theorem d_GR_slotBetween_18 : decode c_GR_slotBetween 18 = .ok (.iload_n 1, 1) := by decide +kernel
theorem d_GR_slotBetween_19 : decode c_GR_slotBetween 19 = .ok (.iload_n 2, 1) := by decide +kernel
theorem d_GR_slotBetween_20 : decode c_GR_slotBetween 20 = .ok (.invokestatic 62, 3) := by decide +kernel
theorem d_GR_slotBetween_23 : decode c_GR_slotBetween 23 = .ok (.istore_n 3, 1) := by decide +kernel
theorem d_GR_slotBetween_24 : decode c_GR_slotBetween 24 = .ok (.iload_n 1, 1) := by decide +kernel
theorem d_GR_slotBetween_25 : decode c_GR_slotBetween 25 = .ok (.iload_n 2, 1) := by decide +kernel
theorem d_GR_slotBetween_26 : decode c_GR_slotBetween 26 = .ok (.invokestatic 68, 3) := by decide +kernel
theorem d_GR_slotBetween_29 : decode c_GR_slotBetween 29 = .ok (.iload_n 3, 1) := by decide +kernel
theorem d_GR_slotBetween_30 : decode c_GR_slotBetween 30 = .ok (.isub, 1) := by decide +kernel
theorem d_GR_slotBetween_31 : decode c_GR_slotBetween 31 = .ok (.istore 4, 2) := by decide +kernel
theorem d_GR_slotBetween_33 : decode c_GR_slotBetween 33 = .ok (.iload 4, 2) := by decide +kernel
theorem d_GR_slotBetween_35 : decode c_GR_slotBetween 35 = .ok (.iconst 1, 1) := by decide +kernel
theorem d_GR_slotBetween_36 : decode c_GR_slotBetween 36 = .ok (.if_icmp .ne 19, 3) := by decide +kernel
theorem d_GR_slotBetween_39 : decode c_GR_slotBetween 39 = .ok (.aload_n 0, 1) := by decide +kernel
theorem d_GR_slotBetween_40 : decode c_GR_slotBetween 40 = .ok (.iload_n 3, 1) := by decide +kernel
theorem d_GR_slotBetween_41 : decode c_GR_slotBetween 41 = .ok (.invokestatic 59, 3) := by decide +kernel
theorem d_GR_slotBetween_44 : decode c_GR_slotBetween 44 = .ok (.invokevirtual 71, 3) := by decide +kernel
theorem d_GR_slotBetween_47 : decode c_GR_slotBetween 47 = .ok (.ifCond .eq 8, 3) := by decide +kernel
theorem d_GR_slotBetween_50 : decode c_GR_slotBetween 50 = .ok (.iload_n 3, 1) := by decide +kernel
theorem d_GR_slotBetween_51 : decode c_GR_slotBetween 51 = .ok (.invokestatic 59, 3) := by decide +kernel
theorem d_GR_slotBetween_54 : decode c_GR_slotBetween 54 = .ok (.ireturn, 1) := by decide +kernel
theorem d_GR_slotBetween_55 : decode c_GR_slotBetween 55 = .ok (.iload 4, 2) := by decide +kernel
theorem d_GR_slotBetween_57 : decode c_GR_slotBetween 57 = .ok (.aload_n 0, 1) := by decide +kernel
theorem d_GR_slotBetween_58 : decode c_GR_slotBetween 58 = .ok (.getfield 9, 3) := by decide +kernel
theorem d_GR_slotBetween_61 : decode c_GR_slotBetween 61 = .ok (.if_icmp .ne 21, 3) := by decide +kernel
theorem d_GR_slotBetween_64 : decode c_GR_slotBetween 64 = .ok (.aload_n 0, 1) := by decide +kernel
theorem d_GR_slotBetween_65 : decode c_GR_slotBetween 65 = .ok (.iload_n 3, 1) := by decide +kernel
theorem d_GR_slotBetween_66 : decode c_GR_slotBetween 66 = .ok (.invokestatic 45, 3) := by decide +kernel
theorem d_GR_slotBetween_69 : decode c_GR_slotBetween 69 = .ok (.invokevirtual 71, 3) := by decide +kernel
theorem d_GR_slotBetween_72 : decode c_GR_slotBetween 72 = .ok (.ifCond .eq 10, 3) := by decide +kernel
theorem d_GR_slotBetween_75 : decode c_GR_slotBetween 75 = .ok (.iload_n 3, 1) := by decide +kernel
theorem d_GR_slotBetween_76 : decode c_GR_slotBetween 76 = .ok (.invokestatic 45, 3) := by decide +kernel
theorem d_GR_slotBetween_79 : decode c_GR_slotBetween 79 = .ok (.goto 4, 3) := by decide +kernel
theorem d_GR_slotBetween_82 : decode c_GR_slotBetween 82 = .ok (.iconst (-1), 1) := by decide +kernel
theorem d_GR_slotBetween_83 : decode c_GR_slotBetween 83 = .ok (.ireturn, 1) := by decide +kernel
theorem d_GR_nearEnd_0 : decode c_GR_nearEnd 0 = .ok (.iload_n 1, 1) := by decide +kernel
theorem d_GR_nearEnd_1 : decode c_GR_nearEnd 1 = .ok (.iconst 1, 1) := by decide +kernel
theorem d_GR_nearEnd_2 : decode c_GR_nearEnd 2 = .ok (.ishr, 1) := by decide +kernel
theorem d_GR_nearEnd_3 : decode c_GR_nearEnd 3 = .ok (.ireturn, 1) := by decide +kernel
theorem d_GR_farEnd_0 : decode c_GR_farEnd 0 = .ok (.aload_n 0, 1) := by decide +kernel
theorem d_GR_farEnd_1 : decode c_GR_farEnd 1 = .ok (.iload_n 1, 1) := by decide +kernel
theorem d_GR_farEnd_2 : decode c_GR_farEnd 2 = .ok (.invokevirtual 74, 3) := by decide +kernel
theorem d_GR_farEnd_5 : decode c_GR_farEnd 5 = .ok (.istore_n 2, 1) := by decide +kernel
theorem d_GR_farEnd_6 : decode c_GR_farEnd 6 = .ok (.iload_n 1, 1) := by decide +kernel
theorem d_GR_farEnd_7 : decode c_GR_farEnd 7 = .ok (.iload_n 2, 1) := by decide +kernel
theorem d_GR_farEnd_8 : decode c_GR_farEnd 8 = .ok (.invokestatic 59, 3) := by decide +kernel
theorem d_GR_farEnd_11 : decode c_GR_farEnd 11 = .ok (.if_icmp .ne 9, 3) := by decide +kernel
theorem d_GR_farEnd_14 : decode c_GR_farEnd 14 = .ok (.iload_n 2, 1) := by decide +kernel
theorem d_GR_farEnd_15 : decode c_GR_farEnd 15 = .ok (.iconst 1, 1) := by decide +kernel
theorem d_GR_farEnd_16 : decode c_GR_farEnd 16 = .ok (.iadd, 1) := by decide +kernel
theorem d_GR_farEnd_17 : decode c_GR_farEnd 17 = .ok (.goto 9, 3) := by decide +kernel
theorem d_GR_farEnd_20 : decode c_GR_farEnd 20 = .ok (.iload_n 2, 1) := by decide +kernel
theorem d_GR_farEnd_21 : decode c_GR_farEnd 21 = .ok (.aload_n 0, 1) := by decide +kernel
theorem d_GR_farEnd_22 : decode c_GR_farEnd 22 = .ok (.getfield 9, 3) := by decide +kernel
theorem d_GR_farEnd_25 : decode c_GR_farEnd 25 = .ok (.iadd, 1) := by decide +kernel
theorem d_GR_farEnd_26 : decode c_GR_farEnd 26 = .ok (.ireturn, 1) := by decide +kernel
theorem d_FC_init_0 : decode c_FC_init 0 = .ok (.aload_n 0, 1) := by decide +kernel
theorem d_FC_init_1 : decode c_FC_init 1 = .ok (.invokespecial 1, 3) := by decide +kernel
theorem d_FC_init_4 : decode c_FC_init 4 = .ok (.aload_n 0, 1) := by decide +kernel
theorem d_FC_init_5 : decode c_FC_init 5 = .ok (.new 7, 3) := by decide +kernel
theorem d_FC_init_8 : decode c_FC_init 8 = .ok (.dup, 1) := by decide +kernel
theorem d_FC_init_9 : decode c_FC_init 9 = .ok (.iload_n 2, 1) := by decide +kernel
theorem d_FC_init_10 : decode c_FC_init 10 = .ok (.iconst 1, 1) := by decide +kernel
theorem d_FC_init_11 : decode c_FC_init 11 = .ok (.iconst 5, 1) := by decide +kernel
theorem d_FC_init_12 : decode c_FC_init 12 = .ok (.invokestatic 11, 3) := by decide +kernel
theorem d_FC_init_15 : decode c_FC_init 15 = .ok (.iload_n 3, 1) := by decide +kernel
theorem d_FC_init_16 : decode c_FC_init 16 = .ok (.iconst 1, 1) := by decide +kernel
theorem d_FC_init_17 : decode c_FC_init 17 = .ok (.iconst 5, 1) := by decide +kernel
theorem d_FC_init_18 : decode c_FC_init 18 = .ok (.invokestatic 11, 3) := by decide +kernel
theorem d_FC_init_21 : decode c_FC_init 21 = .ok (.invokespecial 15, 3) := by decide +kernel
theorem d_FC_init_24 : decode c_FC_init 24 = .ok (.putfield 18, 3) := by decide +kernel
theorem d_FC_init_27 : decode c_FC_init 27 = .ok (.iload_n 1, 1) := by decide +kernel
theorem d_FC_init_28 : decode c_FC_init 28 = .ok (.iconst 0, 1) := by decide +kernel
theorem d_FC_init_29 : decode c_FC_init 29 = .ok (.iconst 4, 1) := by decide +kernel
theorem d_FC_init_30 : decode c_FC_init 30 = .ok (.invokestatic 11, 3) := by decide +kernel
theorem d_FC_init_33 : decode c_FC_init 33 = .ok (.istore 4, 2) := by decide +kernel
theorem d_FC_init_35 : decode c_FC_init 35 = .ok (.aload_n 0, 1) := by decide +kernel
theorem d_FC_init_36 : decode c_FC_init 36 = .ok (.new 22, 3) := by decide +kernel
theorem d_FC_init_39 : decode c_FC_init 39 = .ok (.dup, 1) := by decide +kernel
theorem d_FC_init_40 : decode c_FC_init 40 = .ok (.aload_n 0, 1) := by decide +kernel
theorem d_FC_init_41 : decode c_FC_init 41 = .ok (.getfield 18, 3) := by decide +kernel
theorem d_FC_init_44 : decode c_FC_init 44 = .ok (.iload 4, 2) := by decide +kernel
theorem d_FC_init_46 : decode c_FC_init 46 = .ok (.aload_n 0, 1) := by decide +kernel
theorem d_FC_init_47 : decode c_FC_init 47 = .ok (.getfield 18, 3) := by decide +kernel
theorem d_FC_init_50 : decode c_FC_init 50 = .ok (.invokestatic 24, 3) := by decide +kernel
theorem d_FC_init_53 : decode c_FC_init 53 = .ok (.iload 4, 2) := by decide +kernel
theorem d_FC_init_55 : decode c_FC_init 55 = .ok (.invokestatic 28, 3) := by decide +kernel
theorem d_FC_init_58 : decode c_FC_init 58 = .ok (.invokespecial 32, 3) := by decide +kernel
theorem d_FC_init_61 : decode c_FC_init 61 = .ok (.putfield 35, 3) := by decide +kernel
theorem d_FC_init_64 : decode c_FC_init 64 = .ok (.aload_n 0, 1) := by decide +kernel
theorem d_FC_init_65 : decode c_FC_init 65 = .ok (.iconst 2, 1) := by decide +kernel
theorem d_FC_init_66 : decode c_FC_init 66 = .ok (.aload_n 0, 1) := by decide +kernel
theorem d_FC_init_67 : decode c_FC_init 67 = .ok (.getfield 18, 3) := by decide +kernel
theorem d_FC_init_70 : decode c_FC_init 70 = .ok (.getfield 39, 3) := by decide +kernel
theorem d_FC_init_73 : decode c_FC_init 73 = .ok (.imul, 1) := by decide +kernel
theorem d_FC_init_74 : decode c_FC_init 74 = .ok (.newarray .int, 2) := by decide +kernel
theorem d_FC_init_76 : decode c_FC_init 76 = .ok (.putfield 43, 3) := by decide +kernel
theorem d_FC_init_79 : decode c_FC_init 79 = .ok (.aload_n 0, 1) := by decide +kernel
theorem d_FC_init_80 : decode c_FC_init 80 = .ok (.ldc2_w 47, 3) := by decide +kernel
theorem d_FC_init_83 : decode c_FC_init 83 = .ok (.putfield 49, 3) := by decide +kernel
theorem d_FC_init_86 : decode c_FC_init 86 = .ok (.aload_n 0, 1) := by decide +kernel
theorem d_FC_init_87 : decode c_FC_init 87 = .ok (.invokevirtual 53, 3) := by decide +kernel
theorem d_FC_init_90 : decode c_FC_init 90 = .ok (.return_, 1) := by decide +kernel
theorem d_FC_hole_0 : decode c_FC_hole 0 = .ok (.iload_n 1, 1) := by decide +kernel
theorem d_FC_hole_1 : decode c_FC_hole 1 = .ok (.ifCond .lt 29, 3) := by decide +kernel
theorem d_FC_hole_4 : decode c_FC_hole 4 = .ok (.iload_n 1, 1) := by decide +kernel
theorem d_FC_hole_5 : decode c_FC_hole 5 = .ok (.aload_n 0, 1) := by decide +kernel
theorem d_FC_hole_6 : decode c_FC_hole 6 = .ok (.getfield 18, 3) := by decide +kernel
theorem d_FC_hole_9 : decode c_FC_hole 9 = .ok (.getfield 56, 3) := by decide +kernel
theorem d_FC_hole_12 : decode c_FC_hole 12 = .ok (.if_icmp .ge 18, 3) := by decide +kernel
theorem d_FC_hole_15 : decode c_FC_hole 15 = .ok (.iload_n 2, 1) := by decide +kernel
theorem d_FC_hole_16 : decode c_FC_hole 16 = .ok (.ifCond .lt 14, 3) := by decide +kernel
theorem d_FC_hole_19 : decode c_FC_hole 19 = .ok (.iload_n 2, 1) := by decide +kernel
theorem d_FC_hole_20 : decode c_FC_hole 20 = .ok (.aload_n 0, 1) := by decide +kernel
theorem d_FC_hole_21 : decode c_FC_hole 21 = .ok (.getfield 18, 3) := by decide +kernel
theorem d_FC_hole_24 : decode c_FC_hole 24 = .ok (.getfield 59, 3) := by decide +kernel
theorem d_FC_hole_27 : decode c_FC_hole 27 = .ok (.if_icmp .lt 5, 3) := by decide +kernel
theorem d_FC_hole_30 : decode c_FC_hole 30 = .ok (.iconst 0, 1) := by decide +kernel
theorem d_FC_hole_31 : decode c_FC_hole 31 = .ok (.ireturn, 1) := by decide +kernel
theorem d_FC_hole_32 : decode c_FC_hole 32 = .ok (.aload_n 0, 1) := by decide +kernel
theorem d_FC_hole_33 : decode c_FC_hole 33 = .ok (.getfield 18, 3) := by decide +kernel
theorem d_FC_hole_36 : decode c_FC_hole 36 = .ok (.iload_n 1, 1) := by decide +kernel
theorem d_FC_hole_37 : decode c_FC_hole 37 = .ok (.aload_n 0, 1) := by decide +kernel
theorem d_FC_hole_38 : decode c_FC_hole 38 = .ok (.getfield 18, 3) := by decide +kernel
theorem d_FC_hole_41 : decode c_FC_hole 41 = .ok (.getfield 56, 3) := by decide +kernel
theorem d_FC_hole_44 : decode c_FC_hole 44 = .ok (.iload_n 2, 1) := by decide +kernel
theorem d_FC_hole_45 : decode c_FC_hole 45 = .ok (.imul, 1) := by decide +kernel
theorem d_FC_hole_46 : decode c_FC_hole 46 = .ok (.iadd, 1) := by decide +kernel
theorem d_FC_hole_47 : decode c_FC_hole 47 = .ok (.invokevirtual 62, 3) := by decide +kernel
theorem d_FC_hole_50 : decode c_FC_hole 50 = .ok (.aload_n 0, 1) := by decide +kernel
theorem d_FC_hole_51 : decode c_FC_hole 51 = .ok (.lconst 0, 1) := by decide +kernel
theorem d_FC_hole_52 : decode c_FC_hole 52 = .ok (.putfield 66, 3) := by decide +kernel
theorem d_FC_hole_55 : decode c_FC_hole 55 = .ok (.aload_n 0, 1) := by decide +kernel
theorem d_FC_hole_56 : decode c_FC_hole 56 = .ok (.iconst 0, 1) := by decide +kernel
theorem d_FC_hole_57 : decode c_FC_hole 57 = .ok (.putfield 69, 3) := by decide +kernel
theorem d_FC_hole_60 : decode c_FC_hole 60 = .ok (.aload_n 0, 1) := by decide +kernel
theorem d_FC_hole_61 : decode c_FC_hole 61 = .ok (.invokevirtual 53, 3) := by decide +kernel
theorem d_FC_hole_64 : decode c_FC_hole 64 = .ok (.iconst 1, 1) := by decide +kernel
theorem d_FC_hole_65 : decode c_FC_hole 65 = .ok (.ireturn, 1) := by decide +kernel
theorem d_FC_edge_0 : decode c_FC_edge 0 = .ok (.aload_n 0, 1) := by decide +kernel
theorem d_FC_edge_1 : decode c_FC_edge 1 = .ok (.getfield 18, 3) := by decide +kernel
theorem d_FC_edge_4 : decode c_FC_edge 4 = .ok (.iload_n 1, 1) := by decide +kernel
theorem d_FC_edge_5 : decode c_FC_edge 5 = .ok (.iload_n 2, 1) := by decide +kernel
theorem d_FC_edge_6 : decode c_FC_edge 6 = .ok (.invokevirtual 73, 3) := by decide +kernel
theorem d_FC_edge_9 : decode c_FC_edge 9 = .ok (.istore 4, 2) := by decide +kernel
theorem d_FC_edge_11 : decode c_FC_edge 11 = .ok (.iload 4, 2) := by decide +kernel
theorem d_FC_edge_13 : decode c_FC_edge 13 = .ok (.iconst (-1), 1) := by decide +kernel
theorem d_FC_edge_14 : decode c_FC_edge 14 = .ok (.if_icmp .eq 16, 3) := by decide +kernel
theorem d_FC_edge_17 : decode c_FC_edge 17 = .ok (.aload_n 0, 1) := by decide +kernel
theorem d_FC_edge_18 : decode c_FC_edge 18 = .ok (.getfield 66, 3) := by decide +kernel
theorem d_FC_edge_21 : decode c_FC_edge 21 = .ok (.iload 4, 2) := by decide +kernel
theorem d_FC_edge_23 : decode c_FC_edge 23 = .ok (.invokestatic 77, 3) := by decide +kernel
theorem d_FC_edge_26 : decode c_FC_edge 26 = .ok (.iload_n 3, 1) := by decide +kernel
theorem d_FC_edge_27 : decode c_FC_edge 27 = .ok (.if_icmp .eq 5, 3) := by decide +kernel
theorem d_FC_edge_30 : decode c_FC_edge 30 = .ok (.iconst 0, 1) := by decide +kernel
theorem d_FC_edge_31 : decode c_FC_edge 31 = .ok (.ireturn, 1) := by decide +kernel
theorem d_FC_edge_32 : decode c_FC_edge 32 = .ok (.aload_n 0, 1) := by decide +kernel
theorem d_FC_edge_33 : decode c_FC_edge 33 = .ok (.dup, 1) := by decide +kernel
theorem d_FC_edge_34 : decode c_FC_edge 34 = .ok (.getfield 66, 3) := by decide +kernel
theorem d_FC_edge_37 : decode c_FC_edge 37 = .ok (.lconst 1, 1) := by decide +kernel
theorem d_FC_edge_38 : decode c_FC_edge 38 = .ok (.iload 4, 2) := by decide +kernel
theorem d_FC_edge_40 : decode c_FC_edge 40 = .ok (.lshl, 1) := by decide +kernel
theorem d_FC_edge_41 : decode c_FC_edge 41 = .ok (.lxor, 1) := by decide +kernel
theorem d_FC_edge_42 : decode c_FC_edge 42 = .ok (.putfield 66, 3) := by decide +kernel
theorem d_FC_edge_45 : decode c_FC_edge 45 = .ok (.aload_n 0, 1) := by decide +kernel
theorem d_FC_edge_46 : decode c_FC_edge 46 = .ok (.invokevirtual 53, 3) := by decide +kernel
theorem d_FC_edge_49 : decode c_FC_edge 49 = .ok (.iconst 1, 1) := by decide +kernel
theorem d_FC_edge_50 : decode c_FC_edge 50 = .ok (.ireturn, 1) := by decide +kernel
theorem d_FC_ends_0 : decode c_FC_ends 0 = .ok (.aload_n 0, 1) := by decide +kernel
theorem d_FC_ends_1 : decode c_FC_ends 1 = .ok (.getfield 18, 3) := by decide +kernel
theorem d_FC_ends_4 : decode c_FC_ends 4 = .ok (.iload_n 1, 1) := by decide +kernel
theorem d_FC_ends_5 : decode c_FC_ends 5 = .ok (.invokevirtual 81, 3) := by decide +kernel
theorem d_FC_ends_8 : decode c_FC_ends 8 = .ok (.ifCond .eq 19, 3) := by decide +kernel
theorem d_FC_ends_11 : decode c_FC_ends 11 = .ok (.aload_n 0, 1) := by decide +kernel
theorem d_FC_ends_12 : decode c_FC_ends 12 = .ok (.getfield 18, 3) := by decide +kernel
theorem d_FC_ends_15 : decode c_FC_ends 15 = .ok (.iload_n 2, 1) := by decide +kernel
theorem d_FC_ends_16 : decode c_FC_ends 16 = .ok (.invokevirtual 81, 3) := by decide +kernel
theorem d_FC_ends_19 : decode c_FC_ends 19 = .ok (.ifCond .eq 8, 3) := by decide +kernel
theorem d_FC_ends_22 : decode c_FC_ends 22 = .ok (.iload_n 1, 1) := by decide +kernel
theorem d_FC_ends_23 : decode c_FC_ends 23 = .ok (.iload_n 2, 1) := by decide +kernel
theorem d_FC_ends_24 : decode c_FC_ends 24 = .ok (.if_icmp .ne 5, 3) := by decide +kernel
theorem d_FC_ends_27 : decode c_FC_ends 27 = .ok (.iconst 0, 1) := by decide +kernel
theorem d_FC_ends_28 : decode c_FC_ends 28 = .ok (.ireturn, 1) := by decide +kernel
theorem d_FC_ends_29 : decode c_FC_ends 29 = .ok (.aload_n 0, 1) := by decide +kernel
theorem d_FC_ends_30 : decode c_FC_ends 30 = .ok (.getfield 18, 3) := by decide +kernel
theorem d_FC_ends_33 : decode c_FC_ends 33 = .ok (.iload_n 1, 1) := by decide +kernel
theorem d_FC_ends_34 : decode c_FC_ends 34 = .ok (.iload_n 2, 1) := by decide +kernel
theorem d_FC_ends_35 : decode c_FC_ends 35 = .ok (.invokevirtual 85, 3) := by decide +kernel
theorem d_FC_ends_38 : decode c_FC_ends 38 = .ok (.aload_n 0, 1) := by decide +kernel
theorem d_FC_ends_39 : decode c_FC_ends 39 = .ok (.iconst 0, 1) := by decide +kernel
theorem d_FC_ends_40 : decode c_FC_ends 40 = .ok (.putfield 69, 3) := by decide +kernel
theorem d_FC_ends_43 : decode c_FC_ends 43 = .ok (.aload_n 0, 1) := by decide +kernel
theorem d_FC_ends_44 : decode c_FC_ends 44 = .ok (.invokevirtual 88, 3) := by decide +kernel
theorem d_FC_ends_47 : decode c_FC_ends 47 = .ok (.iconst 1, 1) := by decide +kernel
theorem d_FC_ends_48 : decode c_FC_ends 48 = .ok (.ireturn, 1) := by decide +kernel
theorem d_FC_edges_0 : decode c_FC_edges 0 = .ok (.aload_n 0, 1) := by decide +kernel
theorem d_FC_edges_1 : decode c_FC_edges 1 = .ok (.getfield 91, 3) := by decide +kernel
theorem d_FC_edges_4 : decode c_FC_edges 4 = .ok (.ireturn, 1) := by decide +kernel
theorem d_FC_end_0 : decode c_FC_end 0 = .ok (.aload_n 0, 1) := by decide +kernel
theorem d_FC_end_1 : decode c_FC_end 1 = .ok (.iload_n 1, 1) := by decide +kernel
theorem d_FC_end_2 : decode c_FC_end 2 = .ok (.invokevirtual 94, 3) := by decide +kernel
theorem d_FC_end_5 : decode c_FC_end 5 = .ok (.ifCond .ne 5, 3) := by decide +kernel
theorem d_FC_end_8 : decode c_FC_end 8 = .ok (.iconst (-1), 1) := by decide +kernel
theorem d_FC_end_9 : decode c_FC_end 9 = .ok (.ireturn, 1) := by decide +kernel
theorem d_FC_end_10 : decode c_FC_end 10 = .ok (.aload_n 0, 1) := by decide +kernel
theorem d_FC_end_11 : decode c_FC_end 11 = .ok (.getfield 43, 3) := by decide +kernel
theorem d_FC_end_14 : decode c_FC_end 14 = .ok (.iload_n 1, 1) := by decide +kernel
theorem d_FC_end_15 : decode c_FC_end 15 = .ok (.iaload, 1) := by decide +kernel
theorem d_FC_end_16 : decode c_FC_end 16 = .ok (.istore_n 3, 1) := by decide +kernel
theorem d_FC_end_17 : decode c_FC_end 17 = .ok (.iload_n 2, 1) := by decide +kernel
theorem d_FC_end_18 : decode c_FC_end 18 = .ok (.ifCond .eq 14, 3) := by decide +kernel
theorem d_FC_end_21 : decode c_FC_end 21 = .ok (.aload_n 0, 1) := by decide +kernel
theorem d_FC_end_22 : decode c_FC_end 22 = .ok (.getfield 18, 3) := by decide +kernel
theorem d_FC_end_25 : decode c_FC_end 25 = .ok (.iload_n 3, 1) := by decide +kernel
theorem d_FC_end_26 : decode c_FC_end 26 = .ok (.invokevirtual 97, 3) := by decide +kernel
theorem d_FC_end_29 : decode c_FC_end 29 = .ok (.goto 11, 3) := by decide +kernel
theorem d_FC_end_32 : decode c_FC_end 32 = .ok (.aload_n 0, 1) := by decide +kernel
theorem d_FC_end_33 : decode c_FC_end 33 = .ok (.getfield 18, 3) := by decide +kernel
theorem d_FC_end_36 : decode c_FC_end 36 = .ok (.iload_n 3, 1) := by decide +kernel
theorem d_FC_end_37 : decode c_FC_end 37 = .ok (.invokevirtual 100, 3) := by decide +kernel
theorem d_FC_end_40 : decode c_FC_end 40 = .ok (.ireturn, 1) := by decide +kernel
theorem d_FC_force_0 : decode c_FC_force 0 = .ok (.aload_n 0, 1) := by decide +kernel
theorem d_FC_force_1 : decode c_FC_force 1 = .ok (.iload_n 1, 1) := by decide +kernel
theorem d_FC_force_2 : decode c_FC_force 2 = .ok (.invokevirtual 94, 3) := by decide +kernel
theorem d_FC_force_5 : decode c_FC_force 5 = .ok (.ifCond .eq 12, 3) := by decide +kernel
theorem d_FC_force_8 : decode c_FC_force 8 = .ok (.iload_n 2, 1) := by decide +kernel
theorem d_FC_force_9 : decode c_FC_force 9 = .ok (.ifCond .lt 8, 3) := by decide +kernel
theorem d_FC_force_12 : decode c_FC_force 12 = .ok (.iload_n 2, 1) := by decide +kernel
theorem d_FC_force_13 : decode c_FC_force 13 = .ok (.iconst 2, 1) := by decide +kernel
theorem d_FC_force_14 : decode c_FC_force 14 = .ok (.if_icmp .le 5, 3) := by decide +kernel
theorem d_FC_force_17 : decode c_FC_force 17 = .ok (.iconst 0, 1) := by decide +kernel
theorem d_FC_force_18 : decode c_FC_force 18 = .ok (.ireturn, 1) := by decide +kernel
theorem d_FC_force_19 : decode c_FC_force 19 = .ok (.lconst 1, 1) := by decide +kernel
theorem d_FC_force_20 : decode c_FC_force 20 = .ok (.aload_n 0, 1) := by decide +kernel
theorem d_FC_force_21 : decode c_FC_force 21 = .ok (.getfield 43, 3) := by decide +kernel
theorem d_FC_force_24 : decode c_FC_force 24 = .ok (.iload_n 1, 1) := by decide +kernel
theorem d_FC_force_25 : decode c_FC_force 25 = .ok (.iaload, 1) := by decide +kernel
theorem d_FC_force_26 : decode c_FC_force 26 = .ok (.lshl, 1) := by decide +kernel
theorem d_FC_force_27 : decode c_FC_force 27 = .ok (.lstore_n 3, 1) := by decide +kernel
theorem d_FC_force_28 : decode c_FC_force 28 = .ok (.aload_n 0, 1) := by decide +kernel
theorem d_FC_force_29 : decode c_FC_force 29 = .ok (.iload_n 2, 1) := by decide +kernel
theorem d_FC_force_30 : decode c_FC_force 30 = .ok (.iconst 1, 1) := by decide +kernel
theorem d_FC_force_31 : decode c_FC_force 31 = .ok (.if_icmp .ne 12, 3) := by decide +kernel
theorem d_FC_force_34 : decode c_FC_force 34 = .ok (.aload_n 0, 1) := by decide +kernel
theorem d_FC_force_35 : decode c_FC_force 35 = .ok (.getfield 103, 3) := by decide +kernel
theorem d_FC_force_38 : decode c_FC_force 38 = .ok (.lload_n 3, 1) := by decide +kernel
theorem d_FC_force_39 : decode c_FC_force 39 = .ok (.lor, 1) := by decide +kernel
theorem d_FC_force_40 : decode c_FC_force 40 = .ok (.goto 13, 3) := by decide +kernel
theorem d_FC_force_43 : decode c_FC_force 43 = .ok (.aload_n 0, 1) := by decide +kernel
theorem d_FC_force_44 : decode c_FC_force 44 = .ok (.getfield 103, 3) := by decide +kernel
theorem d_FC_force_47 : decode c_FC_force 47 = .ok (.lload_n 3, 1) := by decide +kernel
theorem d_FC_force_48 : decode c_FC_force 48 = .ok (.ldc2_w 47, 3) := by decide +kernel
theorem d_FC_force_51 : decode c_FC_force 51 = .ok (.lxor, 1) := by decide +kernel
theorem d_FC_force_52 : decode c_FC_force 52 = .ok (.land, 1) := by decide +kernel
theorem d_FC_force_53 : decode c_FC_force 53 = .ok (.putfield 103, 3) := by decide +kernel
theorem d_FC_force_56 : decode c_FC_force 56 = .ok (.aload_n 0, 1) := by decide +kernel
theorem d_FC_force_57 : decode c_FC_force 57 = .ok (.iload_n 2, 1) := by decide +kernel
theorem d_FC_force_58 : decode c_FC_force 58 = .ok (.iconst 2, 1) := by decide +kernel
theorem d_FC_force_59 : decode c_FC_force 59 = .ok (.if_icmp .ne 12, 3) := by decide +kernel
theorem d_FC_force_62 : decode c_FC_force 62 = .ok (.aload_n 0, 1) := by decide +kernel
theorem d_FC_force_63 : decode c_FC_force 63 = .ok (.getfield 106, 3) := by decide +kernel
theorem d_FC_force_66 : decode c_FC_force 66 = .ok (.lload_n 3, 1) := by decide +kernel
theorem d_FC_force_67 : decode c_FC_force 67 = .ok (.lor, 1) := by decide +kernel
theorem d_FC_force_68 : decode c_FC_force 68 = .ok (.goto 13, 3) := by decide +kernel
theorem d_FC_force_71 : decode c_FC_force 71 = .ok (.aload_n 0, 1) := by decide +kernel
theorem d_FC_force_72 : decode c_FC_force 72 = .ok (.getfield 106, 3) := by decide +kernel
theorem d_FC_force_75 : decode c_FC_force 75 = .ok (.lload_n 3, 1) := by decide +kernel
theorem d_FC_force_76 : decode c_FC_force 76 = .ok (.ldc2_w 47, 3) := by decide +kernel
theorem d_FC_force_79 : decode c_FC_force 79 = .ok (.lxor, 1) := by decide +kernel
theorem d_FC_force_80 : decode c_FC_force 80 = .ok (.land, 1) := by decide +kernel
theorem d_FC_force_81 : decode c_FC_force 81 = .ok (.putfield 106, 3) := by decide +kernel
theorem d_FC_force_84 : decode c_FC_force 84 = .ok (.aload_n 0, 1) := by decide +kernel
theorem d_FC_force_85 : decode c_FC_force 85 = .ok (.invokevirtual 88, 3) := by decide +kernel
theorem d_FC_force_88 : decode c_FC_force 88 = .ok (.iconst 1, 1) := by decide +kernel
theorem d_FC_force_89 : decode c_FC_force 89 = .ok (.ireturn, 1) := by decide +kernel
theorem d_FC_count_0 : decode c_FC_count 0 = .ok (.aload_n 0, 1) := by decide +kernel
theorem d_FC_count_1 : decode c_FC_count 1 = .ok (.getfield 69, 3) := by decide +kernel
theorem d_FC_count_4 : decode c_FC_count 4 = .ok (.ifCond .ne 15, 3) := by decide +kernel
theorem d_FC_count_7 : decode c_FC_count 7 = .ok (.aload_n 0, 1) := by decide +kernel
theorem d_FC_count_8 : decode c_FC_count 8 = .ok (.getfield 35, 3) := by decide +kernel
theorem d_FC_count_11 : decode c_FC_count 11 = .ok (.invokevirtual 109, 3) := by decide +kernel
theorem d_FC_count_14 : decode c_FC_count 14 = .ok (.aload_n 0, 1) := by decide +kernel
theorem d_FC_count_15 : decode c_FC_count 15 = .ok (.iconst 1, 1) := by decide +kernel
theorem d_FC_count_16 : decode c_FC_count 16 = .ok (.putfield 69, 3) := by decide +kernel
theorem d_FC_count_19 : decode c_FC_count 19 = .ok (.aload_n 0, 1) := by decide +kernel
theorem d_FC_count_20 : decode c_FC_count 20 = .ok (.getfield 112, 3) := by decide +kernel
theorem d_FC_count_23 : decode c_FC_count 23 = .ok (.ifCond .ne 28, 3) := by decide +kernel
theorem d_FC_count_26 : decode c_FC_count 26 = .ok (.aload_n 0, 1) := by decide +kernel
theorem d_FC_count_27 : decode c_FC_count 27 = .ok (.getfield 35, 3) := by decide +kernel
theorem d_FC_count_30 : decode c_FC_count 30 = .ok (.aload_n 0, 1) := by decide +kernel
theorem d_FC_count_31 : decode c_FC_count 31 = .ok (.getfield 103, 3) := by decide +kernel
theorem d_FC_count_34 : decode c_FC_count 34 = .ok (.aload_n 0, 1) := by decide +kernel
theorem d_FC_count_35 : decode c_FC_count 35 = .ok (.getfield 106, 3) := by decide +kernel
theorem d_FC_count_38 : decode c_FC_count 38 = .ok (.aload_n 0, 1) := by decide +kernel
theorem d_FC_count_39 : decode c_FC_count 39 = .ok (.getfield 66, 3) := by decide +kernel
theorem d_FC_count_42 : decode c_FC_count 42 = .ok (.lor, 1) := by decide +kernel
theorem d_FC_count_43 : decode c_FC_count 43 = .ok (.invokevirtual 115, 3) := by decide +kernel
theorem d_FC_count_46 : decode c_FC_count 46 = .ok (.aload_n 0, 1) := by decide +kernel
theorem d_FC_count_47 : decode c_FC_count 47 = .ok (.iconst 1, 1) := by decide +kernel
theorem d_FC_count_48 : decode c_FC_count 48 = .ok (.putfield 112, 3) := by decide +kernel
theorem d_FC_count_51 : decode c_FC_count 51 = .ok (.aload_n 0, 1) := by decide +kernel
theorem d_FC_count_52 : decode c_FC_count 52 = .ok (.getfield 35, 3) := by decide +kernel
theorem d_FC_count_55 : decode c_FC_count 55 = .ok (.invokevirtual 119, 3) := by decide +kernel
theorem d_FC_count_58 : decode c_FC_count 58 = .ok (.lreturn, 1) := by decide +kernel
theorem d_FC_digit_0 : decode c_FC_digit 0 = .ok (.aload_n 0, 1) := by decide +kernel
theorem d_FC_digit_1 : decode c_FC_digit 1 = .ok (.invokevirtual 123, 3) := by decide +kernel
theorem d_FC_digit_4 : decode c_FC_digit 4 = .ok (.lstore_n 2, 1) := by decide +kernel
theorem d_FC_digit_5 : decode c_FC_digit 5 = .ok (.iconst 0, 1) := by decide +kernel
theorem d_FC_digit_6 : decode c_FC_digit 6 = .ok (.istore 4, 2) := by decide +kernel
theorem d_FC_digit_8 : decode c_FC_digit 8 = .ok (.iload 4, 2) := by decide +kernel
theorem d_FC_digit_10 : decode c_FC_digit 10 = .ok (.bipush 19, 2) := by decide +kernel
theorem d_FC_digit_12 : decode c_FC_digit 12 = .ok (.if_icmp .ge 36, 3) := by decide +kernel
theorem d_FC_digit_15 : decode c_FC_digit 15 = .ok (.iload 4, 2) := by decide +kernel
theorem d_FC_digit_17 : decode c_FC_digit 17 = .ok (.iload_n 1, 1) := by decide +kernel
theorem d_FC_digit_18 : decode c_FC_digit 18 = .ok (.if_icmp .ne 10, 3) := by decide +kernel
theorem d_FC_digit_21 : decode c_FC_digit 21 = .ok (.lload_n 2, 1) := by decide +kernel
theorem d_FC_digit_22 : decode c_FC_digit 22 = .ok (.ldc2_w 126, 3) := by decide +kernel
theorem d_FC_digit_25 : decode c_FC_digit 25 = .ok (.lrem, 1) := by decide +kernel
theorem d_FC_digit_26 : decode c_FC_digit 26 = .ok (.l2i, 1) := by decide +kernel
theorem d_FC_digit_27 : decode c_FC_digit 27 = .ok (.ireturn, 1) := by decide +kernel
theorem d_FC_digit_28 : decode c_FC_digit 28 = .ok (.lload_n 2, 1) := by decide +kernel
theorem d_FC_digit_29 : decode c_FC_digit 29 = .ok (.ldc2_w 126, 3) := by decide +kernel
theorem d_FC_digit_32 : decode c_FC_digit 32 = .ok (.ldiv, 1) := by decide +kernel
theorem d_FC_digit_33 : decode c_FC_digit 33 = .ok (.lstore_n 2, 1) := by decide +kernel
theorem d_FC_digit_34 : decode c_FC_digit 34 = .ok (.lload_n 2, 1) := by decide +kernel
theorem d_FC_digit_35 : decode c_FC_digit 35 = .ok (.lconst 0, 1) := by decide +kernel
theorem d_FC_digit_36 : decode c_FC_digit 36 = .ok (.lcmp, 1) := by decide +kernel
theorem d_FC_digit_37 : decode c_FC_digit 37 = .ok (.ifCond .ne 5, 3) := by decide +kernel
theorem d_FC_digit_40 : decode c_FC_digit 40 = .ok (.iconst (-1), 1) := by decide +kernel
theorem d_FC_digit_41 : decode c_FC_digit 41 = .ok (.ireturn, 1) := by decide +kernel
theorem d_FC_digit_42 : decode c_FC_digit 42 = .ok (.iinc 4 1, 3) := by decide +kernel
theorem d_FC_digit_45 : decode c_FC_digit 45 = .ok (.goto (-37), 3) := by decide +kernel
theorem d_FC_digit_48 : decode c_FC_digit 48 = .ok (.iconst (-1), 1) := by decide +kernel
theorem d_FC_digit_49 : decode c_FC_digit 49 = .ok (.ireturn, 1) := by decide +kernel
