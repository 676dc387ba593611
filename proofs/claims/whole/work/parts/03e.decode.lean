theorem dX7_beginAnew_6 : decode cX7_beginAnew 6 = .ok (.if_icmp .ge 16, 3) := by decide +kernel
theorem dX7_beginAnew_9 : decode cX7_beginAnew 9 = .ok (.aload_n 0, 1) := by decide +kernel
theorem dX7_beginAnew_10 : decode cX7_beginAnew 10 = .ok (.getfield 7, 3) := by decide +kernel
theorem dX7_beginAnew_13 : decode cX7_beginAnew 13 = .ok (.iload_n 2, 1) := by decide +kernel
theorem dX7_beginAnew_14 : decode cX7_beginAnew 14 = .ok (.iconst 0, 1) := by decide +kernel
theorem dX7_beginAnew_15 : decode cX7_beginAnew 15 = .ok (.iastore, 1) := by decide +kernel
theorem dX7_beginAnew_16 : decode cX7_beginAnew 16 = .ok (.iinc 2 1, 3) := by decide +kernel
theorem dX7_beginAnew_19 : decode cX7_beginAnew 19 = .ok (.goto (-17), 3) := by decide +kernel
theorem dX7_beginAnew_22 : decode cX7_beginAnew 22 = .ok (.iconst 0, 1) := by decide +kernel
theorem dX7_beginAnew_23 : decode cX7_beginAnew 23 = .ok (.istore_n 2, 1) := by decide +kernel
theorem dX7_beginAnew_24 : decode cX7_beginAnew 24 = .ok (.iload_n 2, 1) := by decide +kernel
theorem dX7_beginAnew_25 : decode cX7_beginAnew 25 = .ok (.bipush 6, 2) := by decide +kernel
theorem dX7_beginAnew_27 : decode cX7_beginAnew 27 = .ok (.if_icmp .ge 20, 3) := by decide +kernel
theorem dX7_beginAnew_30 : decode cX7_beginAnew 30 = .ok (.aload_n 0, 1) := by decide +kernel
theorem dX7_beginAnew_31 : decode cX7_beginAnew 31 = .ok (.getfield 7, 3) := by decide +kernel
theorem dX7_beginAnew_34 : decode cX7_beginAnew 34 = .ok (.sipush 715, 3) := by decide +kernel
theorem dX7_beginAnew_37 : decode cX7_beginAnew 37 = .ok (.iload_n 2, 1) := by decide +kernel
theorem dX7_beginAnew_38 : decode cX7_beginAnew 38 = .ok (.iadd, 1) := by decide +kernel
theorem dX7_beginAnew_39 : decode cX7_beginAnew 39 = .ok (.iconst (-1), 1) := by decide +kernel
theorem dX7_beginAnew_40 : decode cX7_beginAnew 40 = .ok (.iastore, 1) := by decide +kernel
theorem dX7_beginAnew_41 : decode cX7_beginAnew 41 = .ok (.iinc 2 1, 3) := by decide +kernel
theorem dX7_beginAnew_44 : decode cX7_beginAnew 44 = .ok (.goto (-20), 3) := by decide +kernel
theorem dX7_beginAnew_47 : decode cX7_beginAnew 47 = .ok (.iconst 0, 1) := by decide +kernel
theorem dX7_beginAnew_48 : decode cX7_beginAnew 48 = .ok (.istore_n 2, 1) := by decide +kernel
theorem dX7_beginAnew_49 : decode cX7_beginAnew 49 = .ok (.iload_n 2, 1) := by decide +kernel
theorem dX7_beginAnew_50 : decode cX7_beginAnew 50 = .ok (.iconst 4, 1) := by decide +kernel
theorem dX7_beginAnew_51 : decode cX7_beginAnew 51 = .ok (.if_icmp .ge 20, 3) := by decide +kernel
theorem dX7_beginAnew_54 : decode cX7_beginAnew 54 = .ok (.aload_n 0, 1) := by decide +kernel
theorem dX7_beginAnew_55 : decode cX7_beginAnew 55 = .ok (.getfield 7, 3) := by decide +kernel
theorem dX7_beginAnew_58 : decode cX7_beginAnew 58 = .ok (.sipush 721, 3) := by decide +kernel
theorem dX7_beginAnew_61 : decode cX7_beginAnew 61 = .ok (.iload_n 2, 1) := by decide +kernel
theorem dX7_beginAnew_62 : decode cX7_beginAnew 62 = .ok (.iadd, 1) := by decide +kernel
theorem dX7_beginAnew_63 : decode cX7_beginAnew 63 = .ok (.iconst (-1), 1) := by decide +kernel
theorem dX7_beginAnew_64 : decode cX7_beginAnew 64 = .ok (.iastore, 1) := by decide +kernel
theorem dX7_beginAnew_65 : decode cX7_beginAnew 65 = .ok (.iinc 2 1, 3) := by decide +kernel
theorem dX7_beginAnew_68 : decode cX7_beginAnew 68 = .ok (.goto (-19), 3) := by decide +kernel
theorem dX7_beginAnew_71 : decode cX7_beginAnew 71 = .ok (.aload_n 0, 1) := by decide +kernel
theorem dX7_beginAnew_72 : decode cX7_beginAnew 72 = .ok (.getfield 7, 3) := by decide +kernel
theorem dX7_beginAnew_75 : decode cX7_beginAnew 75 = .ok (.sipush 725, 3) := by decide +kernel
theorem dX7_beginAnew_78 : decode cX7_beginAnew 78 = .ok (.iload_n 1, 1) := by decide +kernel
theorem dX7_beginAnew_79 : decode cX7_beginAnew 79 = .ok (.iastore, 1) := by decide +kernel
theorem dX7_beginAnew_80 : decode cX7_beginAnew 80 = .ok (.aload_n 0, 1) := by decide +kernel
theorem dX7_beginAnew_81 : decode cX7_beginAnew 81 = .ok (.getfield 7, 3) := by decide +kernel
theorem dX7_beginAnew_84 : decode cX7_beginAnew 84 = .ok (.sipush 727, 3) := by decide +kernel
theorem dX7_beginAnew_87 : decode cX7_beginAnew 87 = .ok (.iconst (-1), 1) := by decide +kernel
theorem dX7_beginAnew_88 : decode cX7_beginAnew 88 = .ok (.iastore, 1) := by decide +kernel
theorem dX7_beginAnew_89 : decode cX7_beginAnew 89 = .ok (.aload_n 0, 1) := by decide +kernel
theorem dX7_beginAnew_90 : decode cX7_beginAnew 90 = .ok (.getfield 7, 3) := by decide +kernel
theorem dX7_beginAnew_93 : decode cX7_beginAnew 93 = .ok (.sipush 737, 3) := by decide +kernel
theorem dX7_beginAnew_96 : decode cX7_beginAnew 96 = .ok (.iconst 2, 1) := by decide +kernel
theorem dX7_beginAnew_97 : decode cX7_beginAnew 97 = .ok (.iastore, 1) := by decide +kernel
theorem dX7_beginAnew_98 : decode cX7_beginAnew 98 = .ok (.aload_n 0, 1) := by decide +kernel
theorem dX7_beginAnew_99 : decode cX7_beginAnew 99 = .ok (.getfield 7, 3) := by decide +kernel
theorem dX7_beginAnew_102 : decode cX7_beginAnew 102 = .ok (.sipush 738, 3) := by decide +kernel
theorem dX7_beginAnew_105 : decode cX7_beginAnew 105 = .ok (.iconst 2, 1) := by decide +kernel
theorem dX7_beginAnew_106 : decode cX7_beginAnew 106 = .ok (.iastore, 1) := by decide +kernel
theorem dX7_beginAnew_107 : decode cX7_beginAnew 107 = .ok (.return_, 1) := by decide +kernel
theorem dX7_isIn_0 : decode cX7_isIn 0 = .ok (.iload_n 0, 1) := by decide +kernel
theorem dX7_isIn_1 : decode cX7_isIn 1 = .ok (.iload_n 1, 1) := by decide +kernel
theorem dX7_isIn_2 : decode cX7_isIn 2 = .ok (.if_icmp .lt 12, 3) := by decide +kernel
theorem dX7_isIn_5 : decode cX7_isIn 5 = .ok (.iload_n 0, 1) := by decide +kernel
theorem dX7_isIn_6 : decode cX7_isIn 6 = .ok (.iload_n 2, 1) := by decide +kernel
theorem dX7_isIn_7 : decode cX7_isIn 7 = .ok (.if_icmp .gt 7, 3) := by decide +kernel
theorem dX7_isIn_10 : decode cX7_isIn 10 = .ok (.iconst 1, 1) := by decide +kernel
theorem dX7_isIn_11 : decode cX7_isIn 11 = .ok (.goto 4, 3) := by decide +kernel
theorem dX7_isIn_14 : decode cX7_isIn 14 = .ok (.iconst 0, 1) := by decide +kernel
theorem dX7_isIn_15 : decode cX7_isIn 15 = .ok (.ireturn, 1) := by decide +kernel
theorem dX7_isRoot_0 : decode cX7_isRoot 0 = .ok (.iload_n 0, 1) := by decide +kernel
theorem dX7_isRoot_1 : decode cX7_isRoot 1 = .ok (.iconst 0, 1) := by decide +kernel
theorem dX7_isRoot_2 : decode cX7_isRoot 2 = .ok (.iconst 5, 1) := by decide +kernel
theorem dX7_isRoot_3 : decode cX7_isRoot 3 = .ok (.invokestatic 94, 3) := by decide +kernel
theorem dX7_isRoot_6 : decode cX7_isRoot 6 = .ok (.ireturn, 1) := by decide +kernel
theorem dX7_isWeak_0 : decode cX7_isWeak 0 = .ok (.iload_n 0, 1) := by decide +kernel
theorem dX7_isWeak_1 : decode cX7_isWeak 1 = .ok (.iconst 0, 1) := by decide +kernel
theorem dX7_isWeak_2 : decode cX7_isWeak 2 = .ok (.iconst 3, 1) := by decide +kernel
theorem dX7_isWeak_3 : decode cX7_isWeak 3 = .ok (.invokestatic 94, 3) := by decide +kernel
theorem dX7_isWeak_6 : decode cX7_isWeak 6 = .ok (.ireturn, 1) := by decide +kernel
theorem dX7_runs_0 : decode cX7_runs 0 = .ok (.aload_n 0, 1) := by decide +kernel
theorem dX7_runs_1 : decode cX7_runs 1 = .ok (.getfield 7, 3) := by decide +kernel
theorem dX7_runs_4 : decode cX7_runs 4 = .ok (.sipush 726, 3) := by decide +kernel
theorem dX7_runs_7 : decode cX7_runs 7 = .ok (.iaload, 1) := by decide +kernel
theorem dX7_runs_8 : decode cX7_runs 8 = .ok (.iconst 1, 1) := by decide +kernel
theorem dX7_runs_9 : decode cX7_runs 9 = .ok (.if_icmp .ne 7, 3) := by decide +kernel
theorem dX7_runs_12 : decode cX7_runs 12 = .ok (.iconst 1, 1) := by decide +kernel
theorem dX7_runs_13 : decode cX7_runs 13 = .ok (.goto 4, 3) := by decide +kernel
theorem dX7_runs_16 : decode cX7_runs 16 = .ok (.iconst 0, 1) := by decide +kernel
theorem dX7_runs_17 : decode cX7_runs 17 = .ok (.ireturn, 1) := by decide +kernel
theorem dX7_colourOf_0 : decode cX7_colourOf 0 = .ok (.aload_n 0, 1) := by decide +kernel
theorem dX7_colourOf_1 : decode cX7_colourOf 1 = .ok (.getfield 7, 3) := by decide +kernel
theorem dX7_colourOf_4 : decode cX7_colourOf 4 = .ok (.iconst 0, 1) := by decide +kernel
theorem dX7_colourOf_5 : decode cX7_colourOf 5 = .ok (.iload_n 1, 1) := by decide +kernel
theorem dX7_colourOf_6 : decode cX7_colourOf 6 = .ok (.iadd, 1) := by decide +kernel
theorem dX7_colourOf_7 : decode cX7_colourOf 7 = .ok (.iaload, 1) := by decide +kernel
theorem dX7_colourOf_8 : decode cX7_colourOf 8 = .ok (.ireturn, 1) := by decide +kernel
theorem dX7_sizeAt_0 : decode cX7_sizeAt 0 = .ok (.iload_n 1, 1) := by decide +kernel
theorem dX7_sizeAt_1 : decode cX7_sizeAt 1 = .ok (.iconst 0, 1) := by decide +kernel
theorem dX7_sizeAt_2 : decode cX7_sizeAt 2 = .ok (.bipush 127, 2) := by decide +kernel
theorem dX7_sizeAt_4 : decode cX7_sizeAt 4 = .ok (.invokestatic 94, 3) := by decide +kernel
theorem dX7_sizeAt_7 : decode cX7_sizeAt 7 = .ok (.ifCond .eq 34, 3) := by decide +kernel
theorem dX7_sizeAt_10 : decode cX7_sizeAt 10 = .ok (.iload_n 1, 1) := by decide +kernel
theorem dX7_sizeAt_11 : decode cX7_sizeAt 11 = .ok (.bipush 16, 2) := by decide +kernel
theorem dX7_sizeAt_13 : decode cX7_sizeAt 13 = .ok (.idiv, 1) := by decide +kernel
theorem dX7_sizeAt_14 : decode cX7_sizeAt 14 = .ok (.aload_n 0, 1) := by decide +kernel
theorem dX7_sizeAt_15 : decode cX7_sizeAt 15 = .ok (.getfield 7, 3) := by decide +kernel
theorem dX7_sizeAt_18 : decode cX7_sizeAt 18 = .ok (.sipush 725, 3) := by decide +kernel
theorem dX7_sizeAt_21 : decode cX7_sizeAt 21 = .ok (.iaload, 1) := by decide +kernel
theorem dX7_sizeAt_22 : decode cX7_sizeAt 22 = .ok (.if_icmp .ge 19, 3) := by decide +kernel
theorem dX7_sizeAt_25 : decode cX7_sizeAt 25 = .ok (.aload_n 0, 1) := by decide +kernel
theorem dX7_sizeAt_26 : decode cX7_sizeAt 26 = .ok (.getfield 7, 3) := by decide +kernel
theorem dX7_sizeAt_29 : decode cX7_sizeAt 29 = .ok (.sipush 707, 3) := by decide +kernel
theorem dX7_sizeAt_32 : decode cX7_sizeAt 32 = .ok (.iload_n 1, 1) := by decide +kernel
theorem dX7_sizeAt_33 : decode cX7_sizeAt 33 = .ok (.bipush 16, 2) := by decide +kernel
theorem dX7_sizeAt_35 : decode cX7_sizeAt 35 = .ok (.idiv, 1) := by decide +kernel
theorem dX7_sizeAt_36 : decode cX7_sizeAt 36 = .ok (.iadd, 1) := by decide +kernel
theorem dX7_sizeAt_37 : decode cX7_sizeAt 37 = .ok (.iaload, 1) := by decide +kernel
theorem dX7_sizeAt_38 : decode cX7_sizeAt 38 = .ok (.goto 4, 3) := by decide +kernel
theorem dX7_sizeAt_41 : decode cX7_sizeAt 41 = .ok (.iconst 0, 1) := by decide +kernel
theorem dX7_sizeAt_42 : decode cX7_sizeAt 42 = .ok (.ireturn, 1) := by decide +kernel
theorem dX7_isSlot_0 : decode cX7_isSlot 0 = .ok (.aload_n 0, 1) := by decide +kernel
theorem dX7_isSlot_1 : decode cX7_isSlot 1 = .ok (.iload_n 1, 1) := by decide +kernel
theorem dX7_isSlot_2 : decode cX7_isSlot 2 = .ok (.invokevirtual 98, 3) := by decide +kernel
theorem dX7_isSlot_5 : decode cX7_isSlot 5 = .ok (.ifCond .le 17, 3) := by decide +kernel
theorem dX7_isSlot_8 : decode cX7_isSlot 8 = .ok (.iload_n 1, 1) := by decide +kernel
theorem dX7_isSlot_9 : decode cX7_isSlot 9 = .ok (.aload_n 0, 1) := by decide +kernel
theorem dX7_isSlot_10 : decode cX7_isSlot 10 = .ok (.iload_n 1, 1) := by decide +kernel
theorem dX7_isSlot_11 : decode cX7_isSlot 11 = .ok (.invokevirtual 98, 3) := by decide +kernel
theorem dX7_isSlot_14 : decode cX7_isSlot 14 = .ok (.irem, 1) := by decide +kernel
theorem dX7_isSlot_15 : decode cX7_isSlot 15 = .ok (.ifCond .ne 7, 3) := by decide +kernel
theorem dX7_isSlot_18 : decode cX7_isSlot 18 = .ok (.iconst 1, 1) := by decide +kernel
theorem dX7_isSlot_19 : decode cX7_isSlot 19 = .ok (.goto 4, 3) := by decide +kernel
theorem dX7_isSlot_22 : decode cX7_isSlot 22 = .ok (.iconst 0, 1) := by decide +kernel
theorem dX7_isSlot_23 : decode cX7_isSlot 23 = .ok (.ireturn, 1) := by decide +kernel
theorem dX7_isObject_0 : decode cX7_isObject 0 = .ok (.aload_n 0, 1) := by decide +kernel
theorem dX7_isObject_1 : decode cX7_isObject 1 = .ok (.iload_n 1, 1) := by decide +kernel
theorem dX7_isObject_2 : decode cX7_isObject 2 = .ok (.invokevirtual 102, 3) := by decide +kernel
theorem dX7_isObject_5 : decode cX7_isObject 5 = .ok (.ifCond .eq 15, 3) := by decide +kernel
theorem dX7_isObject_8 : decode cX7_isObject 8 = .ok (.aload_n 0, 1) := by decide +kernel
theorem dX7_isObject_9 : decode cX7_isObject 9 = .ok (.iload_n 1, 1) := by decide +kernel
theorem dX7_isObject_10 : decode cX7_isObject 10 = .ok (.invokevirtual 106, 3) := by decide +kernel
theorem dX7_isObject_13 : decode cX7_isObject 13 = .ok (.ifCond .eq 7, 3) := by decide +kernel
theorem dX7_isObject_16 : decode cX7_isObject 16 = .ok (.iconst 1, 1) := by decide +kernel
theorem dX7_isObject_17 : decode cX7_isObject 17 = .ok (.goto 4, 3) := by decide +kernel
theorem dX7_isObject_20 : decode cX7_isObject 20 = .ok (.iconst 0, 1) := by decide +kernel
theorem dX7_isObject_21 : decode cX7_isObject 21 = .ok (.ireturn, 1) := by decide +kernel
theorem dX7_hasField_0 : decode cX7_hasField 0 = .ok (.aload_n 0, 1) := by decide +kernel
theorem dX7_hasField_1 : decode cX7_hasField 1 = .ok (.iload_n 1, 1) := by decide +kernel
theorem dX7_hasField_2 : decode cX7_hasField 2 = .ok (.invokevirtual 109, 3) := by decide +kernel
theorem dX7_hasField_5 : decode cX7_hasField 5 = .ok (.ifCond .eq 27, 3) := by decide +kernel
theorem dX7_hasField_8 : decode cX7_hasField 8 = .ok (.iload_n 2, 1) := by decide +kernel
theorem dX7_hasField_9 : decode cX7_hasField 9 = .ok (.iconst 0, 1) := by decide +kernel
theorem dX7_hasField_10 : decode cX7_hasField 10 = .ok (.aload_n 0, 1) := by decide +kernel
theorem dX7_hasField_11 : decode cX7_hasField 11 = .ok (.getfield 7, 3) := by decide +kernel
theorem dX7_hasField_14 : decode cX7_hasField 14 = .ok (.sipush 128, 3) := by decide +kernel
theorem dX7_hasField_17 : decode cX7_hasField 17 = .ok (.iload_n 1, 1) := by decide +kernel
theorem dX7_hasField_18 : decode cX7_hasField 18 = .ok (.iadd, 1) := by decide +kernel
theorem dX7_hasField_19 : decode cX7_hasField 19 = .ok (.iaload, 1) := by decide +kernel
theorem dX7_hasField_20 : decode cX7_hasField 20 = .ok (.iconst 1, 1) := by decide +kernel
theorem dX7_hasField_21 : decode cX7_hasField 21 = .ok (.isub, 1) := by decide +kernel
theorem dX7_hasField_22 : decode cX7_hasField 22 = .ok (.invokestatic 94, 3) := by decide +kernel
theorem dX7_hasField_25 : decode cX7_hasField 25 = .ok (.ifCond .eq 7, 3) := by decide +kernel
theorem dX7_hasField_28 : decode cX7_hasField 28 = .ok (.iconst 1, 1) := by decide +kernel
theorem dX7_hasField_29 : decode cX7_hasField 29 = .ok (.goto 4, 3) := by decide +kernel
theorem dX7_hasField_32 : decode cX7_hasField 32 = .ok (.iconst 0, 1) := by decide +kernel
theorem dX7_hasField_33 : decode cX7_hasField 33 = .ok (.ireturn, 1) := by decide +kernel
theorem dX7_fieldAt_0 : decode cX7_fieldAt 0 = .ok (.sipush 256, 3) := by decide +kernel
theorem dX7_fieldAt_3 : decode cX7_fieldAt 3 = .ok (.iload_n 0, 1) := by decide +kernel
theorem dX7_fieldAt_4 : decode cX7_fieldAt 4 = .ok (.iadd, 1) := by decide +kernel
theorem dX7_fieldAt_5 : decode cX7_fieldAt 5 = .ok (.iconst 1, 1) := by decide +kernel
theorem dX7_fieldAt_6 : decode cX7_fieldAt 6 = .ok (.iadd, 1) := by decide +kernel
theorem dX7_fieldAt_7 : decode cX7_fieldAt 7 = .ok (.iload_n 1, 1) := by decide +kernel
theorem dX7_fieldAt_8 : decode cX7_fieldAt 8 = .ok (.iadd, 1) := by decide +kernel
theorem dX7_fieldAt_9 : decode cX7_fieldAt 9 = .ok (.ireturn, 1) := by decide +kernel
theorem dX7_ringOf_0 : decode cX7_ringOf 0 = .ok (.iload_n 0, 1) := by decide +kernel
theorem dX7_ringOf_1 : decode cX7_ringOf 1 = .ok (.iconst 2, 1) := by decide +kernel
theorem dX7_ringOf_2 : decode cX7_ringOf 2 = .ok (.if_icmp .ne 7, 3) := by decide +kernel
theorem dX7_ringOf_5 : decode cX7_ringOf 5 = .ok (.iconst 0, 1) := by decide +kernel
theorem dX7_ringOf_6 : decode cX7_ringOf 6 = .ok (.goto 13, 3) := by decide +kernel
theorem dX7_ringOf_9 : decode cX7_ringOf 9 = .ok (.iload_n 0, 1) := by decide +kernel
theorem dX7_ringOf_10 : decode cX7_ringOf 10 = .ok (.iconst 4, 1) := by decide +kernel
theorem dX7_ringOf_11 : decode cX7_ringOf 11 = .ok (.if_icmp .ne 7, 3) := by decide +kernel
theorem dX7_ringOf_14 : decode cX7_ringOf 14 = .ok (.iconst 1, 1) := by decide +kernel
theorem dX7_ringOf_15 : decode cX7_ringOf 15 = .ok (.goto 4, 3) := by decide +kernel
theorem dX7_ringOf_18 : decode cX7_ringOf 18 = .ok (.iconst 2, 1) := by decide +kernel
theorem dX7_ringOf_19 : decode cX7_ringOf 19 = .ok (.ireturn, 1) := by decide +kernel
theorem dX7_sizeOfRing_0 : decode cX7_sizeOfRing 0 = .ok (.iconst 2, 1) := by decide +kernel
theorem dX7_sizeOfRing_1 : decode cX7_sizeOfRing 1 = .ok (.iload_n 0, 1) := by decide +kernel
theorem dX7_sizeOfRing_2 : decode cX7_sizeOfRing 2 = .ok (.ishl, 1) := by decide +kernel
theorem dX7_sizeOfRing_3 : decode cX7_sizeOfRing 3 = .ok (.ireturn, 1) := by decide +kernel
theorem dX7_sizeFor_0 : decode cX7_sizeFor 0 = .ok (.iload_n 0, 1) := by decide +kernel
theorem dX7_sizeFor_1 : decode cX7_sizeFor 1 = .ok (.iconst 2, 1) := by decide +kernel
theorem dX7_sizeFor_2 : decode cX7_sizeFor 2 = .ok (.if_icmp .ge 7, 3) := by decide +kernel
theorem dX7_sizeFor_5 : decode cX7_sizeFor 5 = .ok (.iconst 2, 1) := by decide +kernel
theorem dX7_sizeFor_6 : decode cX7_sizeFor 6 = .ok (.goto 14, 3) := by decide +kernel
theorem dX7_sizeFor_9 : decode cX7_sizeFor 9 = .ok (.iload_n 0, 1) := by decide +kernel
theorem dX7_sizeFor_10 : decode cX7_sizeFor 10 = .ok (.iconst 4, 1) := by decide +kernel
theorem dX7_sizeFor_11 : decode cX7_sizeFor 11 = .ok (.if_icmp .ge 7, 3) := by decide +kernel
theorem dX7_sizeFor_14 : decode cX7_sizeFor 14 = .ok (.iconst 4, 1) := by decide +kernel
theorem dX7_sizeFor_15 : decode cX7_sizeFor 15 = .ok (.goto 5, 3) := by decide +kernel
theorem dX7_sizeFor_18 : decode cX7_sizeFor 18 = .ok (.bipush 8, 2) := by decide +kernel
theorem dX7_sizeFor_20 : decode cX7_sizeFor 20 = .ok (.ireturn, 1) := by decide +kernel
theorem dX7_longOf_0 : decode cX7_longOf 0 = .ok (.aload_n 0, 1) := by decide +kernel
theorem dX7_longOf_1 : decode cX7_longOf 1 = .ok (.getfield 7, 3) := by decide +kernel
theorem dX7_longOf_4 : decode cX7_longOf 4 = .ok (.sipush 704, 3) := by decide +kernel
theorem dX7_longOf_7 : decode cX7_longOf 7 = .ok (.iload_n 1, 1) := by decide +kernel
theorem dX7_longOf_8 : decode cX7_longOf 8 = .ok (.iadd, 1) := by decide +kernel
theorem dX7_longOf_9 : decode cX7_longOf 9 = .ok (.iaload, 1) := by decide +kernel
theorem dX7_longOf_10 : decode cX7_longOf 10 = .ok (.ireturn, 1) := by decide +kernel
theorem dX7_ringAt_0 : decode cX7_ringAt 0 = .ok (.sipush 512, 3) := by decide +kernel
theorem dX7_ringAt_3 : decode cX7_ringAt 3 = .ok (.bipush 64, 2) := by decide +kernel
theorem dX7_ringAt_5 : decode cX7_ringAt 5 = .ok (.iload_n 0, 1) := by decide +kernel
theorem dX7_ringAt_6 : decode cX7_ringAt 6 = .ok (.imul, 1) := by decide +kernel
theorem dX7_ringAt_7 : decode cX7_ringAt 7 = .ok (.iadd, 1) := by decide +kernel
theorem dX7_ringAt_8 : decode cX7_ringAt 8 = .ok (.iload_n 1, 1) := by decide +kernel
theorem dX7_ringAt_9 : decode cX7_ringAt 9 = .ok (.iadd, 1) := by decide +kernel
theorem dX7_ringAt_10 : decode cX7_ringAt 10 = .ok (.ireturn, 1) := by decide +kernel
theorem dX7_takeOut_0 : decode cX7_takeOut 0 = .ok (.iconst 0, 1) := by decide +kernel
theorem dX7_takeOut_1 : decode cX7_takeOut 1 = .ok (.istore_n 3, 1) := by decide +kernel
theorem dX7_takeOut_2 : decode cX7_takeOut 2 = .ok (.aload_n 0, 1) := by decide +kernel
theorem dX7_takeOut_3 : decode cX7_takeOut 3 = .ok (.getfield 7, 3) := by decide +kernel
theorem dX7_takeOut_6 : decode cX7_takeOut 6 = .ok (.iload_n 1, 1) := by decide +kernel
theorem dX7_takeOut_7 : decode cX7_takeOut 7 = .ok (.iload_n 3, 1) := by decide +kernel
theorem dX7_takeOut_8 : decode cX7_takeOut 8 = .ok (.invokestatic 112, 3) := by decide +kernel
theorem dX7_takeOut_11 : decode cX7_takeOut 11 = .ok (.iaload, 1) := by decide +kernel
theorem dX7_takeOut_12 : decode cX7_takeOut 12 = .ok (.iload_n 2, 1) := by decide +kernel
theorem dX7_takeOut_13 : decode cX7_takeOut 13 = .ok (.if_icmp .eq 9, 3) := by decide +kernel
theorem dX7_takeOut_16 : decode cX7_takeOut 16 = .ok (.iinc 3 1, 3) := by decide +kernel
theorem dX7_takeOut_19 : decode cX7_takeOut 19 = .ok (.goto (-17), 3) := by decide +kernel
theorem dX7_takeOut_22 : decode cX7_takeOut 22 = .ok (.iload_n 3, 1) := by decide +kernel
theorem dX7_takeOut_23 : decode cX7_takeOut 23 = .ok (.istore 4, 2) := by decide +kernel
theorem dX7_takeOut_25 : decode cX7_takeOut 25 = .ok (.iload 4, 2) := by decide +kernel
theorem dX7_takeOut_27 : decode cX7_takeOut 27 = .ok (.iconst 1, 1) := by decide +kernel
theorem dX7_takeOut_28 : decode cX7_takeOut 28 = .ok (.iadd, 1) := by decide +kernel
theorem dX7_takeOut_29 : decode cX7_takeOut 29 = .ok (.aload_n 0, 1) := by decide +kernel
theorem dX7_takeOut_30 : decode cX7_takeOut 30 = .ok (.iload_n 1, 1) := by decide +kernel
theorem dX7_takeOut_31 : decode cX7_takeOut 31 = .ok (.invokevirtual 116, 3) := by decide +kernel
theorem dX7_takeOut_34 : decode cX7_takeOut 34 = .ok (.if_icmp .ge 33, 3) := by decide +kernel
theorem dX7_takeOut_37 : decode cX7_takeOut 37 = .ok (.aload_n 0, 1) := by decide +kernel
theorem dX7_takeOut_38 : decode cX7_takeOut 38 = .ok (.getfield 7, 3) := by decide +kernel
theorem dX7_takeOut_41 : decode cX7_takeOut 41 = .ok (.iload_n 1, 1) := by decide +kernel
theorem dX7_takeOut_42 : decode cX7_takeOut 42 = .ok (.iload 4, 2) := by decide +kernel
theorem dX7_takeOut_44 : decode cX7_takeOut 44 = .ok (.invokestatic 112, 3) := by decide +kernel
theorem dX7_takeOut_47 : decode cX7_takeOut 47 = .ok (.aload_n 0, 1) := by decide +kernel
theorem dX7_takeOut_48 : decode cX7_takeOut 48 = .ok (.getfield 7, 3) := by decide +kernel
theorem dX7_takeOut_51 : decode cX7_takeOut 51 = .ok (.iload_n 1, 1) := by decide +kernel
theorem dX7_takeOut_52 : decode cX7_takeOut 52 = .ok (.iload 4, 2) := by decide +kernel
theorem dX7_takeOut_54 : decode cX7_takeOut 54 = .ok (.iconst 1, 1) := by decide +kernel
theorem dX7_takeOut_55 : decode cX7_takeOut 55 = .ok (.iadd, 1) := by decide +kernel
theorem dX7_takeOut_56 : decode cX7_takeOut 56 = .ok (.invokestatic 112, 3) := by decide +kernel
theorem dX7_takeOut_59 : decode cX7_takeOut 59 = .ok (.iaload, 1) := by decide +kernel
theorem dX7_takeOut_60 : decode cX7_takeOut 60 = .ok (.iastore, 1) := by decide +kernel
theorem dX7_takeOut_61 : decode cX7_takeOut 61 = .ok (.iinc 4 1, 3) := by decide +kernel
theorem dX7_takeOut_64 : decode cX7_takeOut 64 = .ok (.goto (-39), 3) := by decide +kernel
theorem dX7_takeOut_67 : decode cX7_takeOut 67 = .ok (.aload_n 0, 1) := by decide +kernel
theorem dX7_takeOut_68 : decode cX7_takeOut 68 = .ok (.getfield 7, 3) := by decide +kernel
theorem dX7_takeOut_71 : decode cX7_takeOut 71 = .ok (.sipush 704, 3) := by decide +kernel
theorem dX7_takeOut_74 : decode cX7_takeOut 74 = .ok (.iload_n 1, 1) := by decide +kernel
theorem dX7_takeOut_75 : decode cX7_takeOut 75 = .ok (.iadd, 1) := by decide +kernel
theorem dX7_takeOut_76 : decode cX7_takeOut 76 = .ok (.dup2, 1) := by decide +kernel
theorem dX7_takeOut_77 : decode cX7_takeOut 77 = .ok (.iaload, 1) := by decide +kernel
theorem dX7_takeOut_78 : decode cX7_takeOut 78 = .ok (.iconst 1, 1) := by decide +kernel
theorem dX7_takeOut_79 : decode cX7_takeOut 79 = .ok (.isub, 1) := by decide +kernel
theorem dX7_takeOut_80 : decode cX7_takeOut 80 = .ok (.iastore, 1) := by decide +kernel
theorem dX7_takeOut_81 : decode cX7_takeOut 81 = .ok (.return_, 1) := by decide +kernel
theorem dX7_putIn_0 : decode cX7_putIn 0 = .ok (.aload_n 0, 1) := by decide +kernel
theorem dX7_putIn_1 : decode cX7_putIn 1 = .ok (.iload_n 1, 1) := by decide +kernel
theorem dX7_putIn_2 : decode cX7_putIn 2 = .ok (.invokevirtual 116, 3) := by decide +kernel
theorem dX7_putIn_5 : decode cX7_putIn 5 = .ok (.istore 4, 2) := by decide +kernel
theorem dX7_putIn_7 : decode cX7_putIn 7 = .ok (.iload 4, 2) := by decide +kernel
theorem dX7_putIn_9 : decode cX7_putIn 9 = .ok (.iload_n 2, 1) := by decide +kernel
theorem dX7_putIn_10 : decode cX7_putIn 10 = .ok (.if_icmp .le 33, 3) := by decide +kernel
theorem dX7_putIn_13 : decode cX7_putIn 13 = .ok (.aload_n 0, 1) := by decide +kernel
theorem dX7_putIn_14 : decode cX7_putIn 14 = .ok (.getfield 7, 3) := by decide +kernel
theorem dX7_putIn_17 : decode cX7_putIn 17 = .ok (.iload_n 1, 1) := by decide +kernel
theorem dX7_putIn_18 : decode cX7_putIn 18 = .ok (.iload 4, 2) := by decide +kernel
theorem dX7_putIn_20 : decode cX7_putIn 20 = .ok (.invokestatic 112, 3) := by decide +kernel
theorem dX7_putIn_23 : decode cX7_putIn 23 = .ok (.aload_n 0, 1) := by decide +kernel
theorem dX7_putIn_24 : decode cX7_putIn 24 = .ok (.getfield 7, 3) := by decide +kernel
theorem dX7_putIn_27 : decode cX7_putIn 27 = .ok (.iload_n 1, 1) := by decide +kernel
theorem dX7_putIn_28 : decode cX7_putIn 28 = .ok (.iload 4, 2) := by decide +kernel
theorem dX7_putIn_30 : decode cX7_putIn 30 = .ok (.iconst 1, 1) := by decide +kernel
theorem dX7_putIn_31 : decode cX7_putIn 31 = .ok (.isub, 1) := by decide +kernel
theorem dX7_putIn_32 : decode cX7_putIn 32 = .ok (.invokestatic 112, 3) := by decide +kernel
theorem dX7_putIn_35 : decode cX7_putIn 35 = .ok (.iaload, 1) := by decide +kernel
theorem dX7_putIn_36 : decode cX7_putIn 36 = .ok (.iastore, 1) := by decide +kernel
theorem dX7_putIn_37 : decode cX7_putIn 37 = .ok (.iinc 4 (-1), 3) := by decide +kernel
theorem dX7_putIn_40 : decode cX7_putIn 40 = .ok (.goto (-33), 3) := by decide +kernel
theorem dX7_putIn_43 : decode cX7_putIn 43 = .ok (.aload_n 0, 1) := by decide +kernel
theorem dX7_putIn_44 : decode cX7_putIn 44 = .ok (.getfield 7, 3) := by decide +kernel
theorem dX7_putIn_47 : decode cX7_putIn 47 = .ok (.iload_n 1, 1) := by decide +kernel
theorem dX7_putIn_48 : decode cX7_putIn 48 = .ok (.iload_n 2, 1) := by decide +kernel
theorem dX7_putIn_49 : decode cX7_putIn 49 = .ok (.invokestatic 112, 3) := by decide +kernel
theorem dX7_putIn_52 : decode cX7_putIn 52 = .ok (.iload_n 3, 1) := by decide +kernel
theorem dX7_putIn_53 : decode cX7_putIn 53 = .ok (.iastore, 1) := by decide +kernel
theorem dX7_putIn_54 : decode cX7_putIn 54 = .ok (.aload_n 0, 1) := by decide +kernel
theorem dX7_putIn_55 : decode cX7_putIn 55 = .ok (.getfield 7, 3) := by decide +kernel
theorem dX7_putIn_58 : decode cX7_putIn 58 = .ok (.sipush 704, 3) := by decide +kernel
theorem dX7_putIn_61 : decode cX7_putIn 61 = .ok (.iload_n 1, 1) := by decide +kernel
theorem dX7_putIn_62 : decode cX7_putIn 62 = .ok (.iadd, 1) := by decide +kernel
theorem dX7_putIn_63 : decode cX7_putIn 63 = .ok (.dup2, 1) := by decide +kernel
theorem dX7_putIn_64 : decode cX7_putIn 64 = .ok (.iaload, 1) := by decide +kernel
theorem dX7_putIn_65 : decode cX7_putIn 65 = .ok (.iconst 1, 1) := by decide +kernel
theorem dX7_putIn_66 : decode cX7_putIn 66 = .ok (.iadd, 1) := by decide +kernel
theorem dX7_putIn_67 : decode cX7_putIn 67 = .ok (.iastore, 1) := by decide +kernel
theorem dX7_putIn_68 : decode cX7_putIn 68 = .ok (.return_, 1) := by decide +kernel
theorem dX7_placeOf_0 : decode cX7_placeOf 0 = .ok (.iconst 0, 1) := by decide +kernel
theorem dX7_placeOf_1 : decode cX7_placeOf 1 = .ok (.istore_n 3, 1) := by decide +kernel
theorem dX7_placeOf_2 : decode cX7_placeOf 2 = .ok (.iload_n 3, 1) := by decide +kernel
theorem dX7_placeOf_3 : decode cX7_placeOf 3 = .ok (.aload_n 0, 1) := by decide +kernel
theorem dX7_placeOf_4 : decode cX7_placeOf 4 = .ok (.iload_n 1, 1) := by decide +kernel
theorem dX7_placeOf_5 : decode cX7_placeOf 5 = .ok (.invokevirtual 116, 3) := by decide +kernel
theorem dX7_placeOf_8 : decode cX7_placeOf 8 = .ok (.if_icmp .ge 27, 3) := by decide +kernel
theorem dX7_placeOf_11 : decode cX7_placeOf 11 = .ok (.aload_n 0, 1) := by decide +kernel
theorem dX7_placeOf_12 : decode cX7_placeOf 12 = .ok (.aload_n 0, 1) := by decide +kernel
theorem dX7_placeOf_13 : decode cX7_placeOf 13 = .ok (.getfield 7, 3) := by decide +kernel
theorem dX7_placeOf_16 : decode cX7_placeOf 16 = .ok (.iload_n 1, 1) := by decide +kernel
theorem dX7_placeOf_17 : decode cX7_placeOf 17 = .ok (.iload_n 3, 1) := by decide +kernel
theorem dX7_placeOf_18 : decode cX7_placeOf 18 = .ok (.invokestatic 112, 3) := by decide +kernel
theorem dX7_placeOf_21 : decode cX7_placeOf 21 = .ok (.iaload, 1) := by decide +kernel
theorem dX7_placeOf_22 : decode cX7_placeOf 22 = .ok (.invokevirtual 106, 3) := by decide +kernel
theorem dX7_placeOf_25 : decode cX7_placeOf 25 = .ok (.iload_n 2, 1) := by decide +kernel
theorem dX7_placeOf_26 : decode cX7_placeOf 26 = .ok (.if_icmp .ge 9, 3) := by decide +kernel
theorem dX7_placeOf_29 : decode cX7_placeOf 29 = .ok (.iinc 3 1, 3) := by decide +kernel
theorem dX7_placeOf_32 : decode cX7_placeOf 32 = .ok (.goto (-30), 3) := by decide +kernel
theorem dX7_placeOf_35 : decode cX7_placeOf 35 = .ok (.iload_n 3, 1) := by decide +kernel
theorem dX7_placeOf_36 : decode cX7_placeOf 36 = .ok (.ireturn, 1) := by decide +kernel
theorem dX7_countOf_0 : decode cX7_countOf 0 = .ok (.iconst 0, 1) := by decide +kernel
theorem dX7_countOf_1 : decode cX7_countOf 1 = .ok (.istore_n 3, 1) := by decide +kernel
theorem dX7_countOf_2 : decode cX7_countOf 2 = .ok (.iconst 0, 1) := by decide +kernel
theorem dX7_countOf_3 : decode cX7_countOf 3 = .ok (.istore 4, 2) := by decide +kernel
theorem dX7_countOf_5 : decode cX7_countOf 5 = .ok (.iload 4, 2) := by decide +kernel
theorem dX7_countOf_7 : decode cX7_countOf 7 = .ok (.aload_n 0, 1) := by decide +kernel
theorem dX7_countOf_8 : decode cX7_countOf 8 = .ok (.iload_n 1, 1) := by decide +kernel
theorem dX7_countOf_9 : decode cX7_countOf 9 = .ok (.invokevirtual 116, 3) := by decide +kernel
theorem dX7_countOf_12 : decode cX7_countOf 12 = .ok (.if_icmp .ge 36, 3) := by decide +kernel
theorem dX7_countOf_15 : decode cX7_countOf 15 = .ok (.iload_n 3, 1) := by decide +kernel
theorem dX7_countOf_16 : decode cX7_countOf 16 = .ok (.aload_n 0, 1) := by decide +kernel
theorem dX7_countOf_17 : decode cX7_countOf 17 = .ok (.aload_n 0, 1) := by decide +kernel
theorem dX7_countOf_18 : decode cX7_countOf 18 = .ok (.getfield 7, 3) := by decide +kernel
theorem dX7_countOf_21 : decode cX7_countOf 21 = .ok (.iload_n 1, 1) := by decide +kernel
theorem dX7_countOf_22 : decode cX7_countOf 22 = .ok (.iload 4, 2) := by decide +kernel
theorem dX7_countOf_24 : decode cX7_countOf 24 = .ok (.invokestatic 112, 3) := by decide +kernel
theorem dX7_countOf_27 : decode cX7_countOf 27 = .ok (.iaload, 1) := by decide +kernel
theorem dX7_countOf_28 : decode cX7_countOf 28 = .ok (.invokevirtual 106, 3) := by decide +kernel
theorem dX7_countOf_31 : decode cX7_countOf 31 = .ok (.iload_n 2, 1) := by decide +kernel
theorem dX7_countOf_32 : decode cX7_countOf 32 = .ok (.if_icmp .ne 7, 3) := by decide +kernel
theorem dX7_countOf_35 : decode cX7_countOf 35 = .ok (.iconst 1, 1) := by decide +kernel
theorem dX7_countOf_36 : decode cX7_countOf 36 = .ok (.goto 4, 3) := by decide +kernel
theorem dX7_countOf_39 : decode cX7_countOf 39 = .ok (.iconst 0, 1) := by decide +kernel
theorem dX7_countOf_40 : decode cX7_countOf 40 = .ok (.iadd, 1) := by decide +kernel
theorem dX7_countOf_41 : decode cX7_countOf 41 = .ok (.istore_n 3, 1) := by decide +kernel
theorem dX7_countOf_42 : decode cX7_countOf 42 = .ok (.iinc 4 1, 3) := by decide +kernel
theorem dX7_countOf_45 : decode cX7_countOf 45 = .ok (.goto (-40), 3) := by decide +kernel
theorem dX7_countOf_48 : decode cX7_countOf 48 = .ok (.iload_n 3, 1) := by decide +kernel
theorem dX7_countOf_49 : decode cX7_countOf 49 = .ok (.ireturn, 1) := by decide +kernel
theorem dX7_countAll_0 : decode cX7_countAll 0 = .ok (.iconst 0, 1) := by decide +kernel
theorem dX7_countAll_1 : decode cX7_countAll 1 = .ok (.istore_n 2, 1) := by decide +kernel
theorem dX7_countAll_2 : decode cX7_countAll 2 = .ok (.iconst 0, 1) := by decide +kernel
theorem dX7_countAll_3 : decode cX7_countAll 3 = .ok (.istore_n 3, 1) := by decide +kernel
theorem dX7_countAll_4 : decode cX7_countAll 4 = .ok (.iload_n 3, 1) := by decide +kernel
theorem dX7_countAll_5 : decode cX7_countAll 5 = .ok (.iconst 3, 1) := by decide +kernel
theorem dX7_countAll_6 : decode cX7_countAll 6 = .ok (.if_icmp .ge 18, 3) := by decide +kernel
theorem dX7_countAll_9 : decode cX7_countAll 9 = .ok (.iload_n 2, 1) := by decide +kernel
theorem dX7_countAll_10 : decode cX7_countAll 10 = .ok (.aload_n 0, 1) := by decide +kernel
theorem dX7_countAll_11 : decode cX7_countAll 11 = .ok (.iload_n 3, 1) := by decide +kernel
theorem dX7_countAll_12 : decode cX7_countAll 12 = .ok (.iload_n 1, 1) := by decide +kernel
theorem dX7_countAll_13 : decode cX7_countAll 13 = .ok (.invokevirtual 119, 3) := by decide +kernel
theorem dX7_countAll_16 : decode cX7_countAll 16 = .ok (.iadd, 1) := by decide +kernel
theorem dX7_countAll_17 : decode cX7_countAll 17 = .ok (.istore_n 2, 1) := by decide +kernel
theorem dX7_countAll_18 : decode cX7_countAll 18 = .ok (.iinc 3 1, 3) := by decide +kernel
theorem dX7_countAll_21 : decode cX7_countAll 21 = .ok (.goto (-17), 3) := by decide +kernel
theorem dX7_countAll_24 : decode cX7_countAll 24 = .ok (.iload_n 2, 1) := by decide +kernel
theorem dX7_countAll_25 : decode cX7_countAll 25 = .ok (.ireturn, 1) := by decide +kernel
theorem dX7_objectsNow_0 : decode cX7_objectsNow 0 = .ok (.aload_n 0, 1) := by decide +kernel
theorem dX7_objectsNow_1 : decode cX7_objectsNow 1 = .ok (.iconst 1, 1) := by decide +kernel
theorem dX7_objectsNow_2 : decode cX7_objectsNow 2 = .ok (.invokevirtual 122, 3) := by decide +kernel
theorem dX7_objectsNow_5 : decode cX7_objectsNow 5 = .ok (.aload_n 0, 1) := by decide +kernel
theorem dX7_objectsNow_6 : decode cX7_objectsNow 6 = .ok (.iconst 2, 1) := by decide +kernel
theorem dX7_objectsNow_7 : decode cX7_objectsNow 7 = .ok (.invokevirtual 122, 3) := by decide +kernel
theorem dX7_objectsNow_10 : decode cX7_objectsNow 10 = .ok (.iadd, 1) := by decide +kernel
theorem dX7_objectsNow_11 : decode cX7_objectsNow 11 = .ok (.aload_n 0, 1) := by decide +kernel
theorem dX7_objectsNow_12 : decode cX7_objectsNow 12 = .ok (.iconst 3, 1) := by decide +kernel
theorem dX7_objectsNow_13 : decode cX7_objectsNow 13 = .ok (.invokevirtual 122, 3) := by decide +kernel
theorem dX7_objectsNow_16 : decode cX7_objectsNow 16 = .ok (.iadd, 1) := by decide +kernel
theorem dX7_objectsNow_17 : decode cX7_objectsNow 17 = .ok (.ireturn, 1) := by decide +kernel
theorem dX7_becomes_0 : decode cX7_becomes 0 = .ok (.aload_n 0, 1) := by decide +kernel
theorem dX7_becomes_1 : decode cX7_becomes 1 = .ok (.iload_n 1, 1) := by decide +kernel
theorem dX7_becomes_2 : decode cX7_becomes 2 = .ok (.invokevirtual 98, 3) := by decide +kernel
theorem dX7_becomes_5 : decode cX7_becomes 5 = .ok (.invokestatic 125, 3) := by decide +kernel
theorem dX7_becomes_8 : decode cX7_becomes 8 = .ok (.istore_n 3, 1) := by decide +kernel
theorem dX7_becomes_9 : decode cX7_becomes 9 = .ok (.aload_n 0, 1) := by decide +kernel
theorem dX7_becomes_10 : decode cX7_becomes 10 = .ok (.iload_n 3, 1) := by decide +kernel
theorem dX7_becomes_11 : decode cX7_becomes 11 = .ok (.iload_n 1, 1) := by decide +kernel
theorem dX7_becomes_12 : decode cX7_becomes 12 = .ok (.invokevirtual 128, 3) := by decide +kernel
theorem dX7_becomes_15 : decode cX7_becomes 15 = .ok (.aload_n 0, 1) := by decide +kernel
theorem dX7_becomes_16 : decode cX7_becomes 16 = .ok (.getfield 7, 3) := by decide +kernel
theorem dX7_becomes_19 : decode cX7_becomes 19 = .ok (.iconst 0, 1) := by decide +kernel
theorem dX7_becomes_20 : decode cX7_becomes 20 = .ok (.iload_n 1, 1) := by decide +kernel
theorem dX7_becomes_21 : decode cX7_becomes 21 = .ok (.iadd, 1) := by decide +kernel
theorem dX7_becomes_22 : decode cX7_becomes 22 = .ok (.iload_n 2, 1) := by decide +kernel
theorem dX7_becomes_23 : decode cX7_becomes 23 = .ok (.iastore, 1) := by decide +kernel
theorem dX7_becomes_24 : decode cX7_becomes 24 = .ok (.aload_n 0, 1) := by decide +kernel
theorem dX7_becomes_25 : decode cX7_becomes 25 = .ok (.iload_n 3, 1) := by decide +kernel
theorem dX7_becomes_26 : decode cX7_becomes 26 = .ok (.aload_n 0, 1) := by decide +kernel
theorem dX7_becomes_27 : decode cX7_becomes 27 = .ok (.iload_n 3, 1) := by decide +kernel
theorem dX7_becomes_28 : decode cX7_becomes 28 = .ok (.iload_n 2, 1) := by decide +kernel
theorem dX7_becomes_29 : decode cX7_becomes 29 = .ok (.invokevirtual 132, 3) := by decide +kernel
theorem dX7_becomes_32 : decode cX7_becomes 32 = .ok (.iload_n 1, 1) := by decide +kernel
theorem dX7_becomes_33 : decode cX7_becomes 33 = .ok (.invokevirtual 135, 3) := by decide +kernel
theorem dX7_becomes_36 : decode cX7_becomes 36 = .ok (.return_, 1) := by decide +kernel
theorem dX7_turnAll_0 : decode cX7_turnAll 0 = .ok (.iconst 0, 1) := by decide +kernel
theorem dX7_turnAll_1 : decode cX7_turnAll 1 = .ok (.istore_n 3, 1) := by decide +kernel
theorem dX7_turnAll_2 : decode cX7_turnAll 2 = .ok (.iconst 0, 1) := by decide +kernel
theorem dX7_turnAll_3 : decode cX7_turnAll 3 = .ok (.istore 4, 2) := by decide +kernel
theorem dX7_turnAll_5 : decode cX7_turnAll 5 = .ok (.iload 4, 2) := by decide +kernel
theorem dX7_turnAll_7 : decode cX7_turnAll 7 = .ok (.sipush 128, 3) := by decide +kernel
theorem dX7_turnAll_10 : decode cX7_turnAll 10 = .ok (.if_icmp .ge 60, 3) := by decide +kernel
theorem dX7_turnAll_13 : decode cX7_turnAll 13 = .ok (.aload_n 0, 1) := by decide +kernel
theorem dX7_turnAll_14 : decode cX7_turnAll 14 = .ok (.iload 4, 2) := by decide +kernel
theorem dX7_turnAll_16 : decode cX7_turnAll 16 = .ok (.invokevirtual 102, 3) := by decide +kernel
theorem dX7_turnAll_19 : decode cX7_turnAll 19 = .ok (.ifCond .eq 45, 3) := by decide +kernel
theorem dX7_turnAll_22 : decode cX7_turnAll 22 = .ok (.aload_n 0, 1) := by decide +kernel
theorem dX7_turnAll_23 : decode cX7_turnAll 23 = .ok (.iload 4, 2) := by decide +kernel
theorem dX7_turnAll_25 : decode cX7_turnAll 25 = .ok (.invokevirtual 106, 3) := by decide +kernel
theorem dX7_turnAll_28 : decode cX7_turnAll 28 = .ok (.iload_n 1, 1) := by decide +kernel
theorem dX7_turnAll_29 : decode cX7_turnAll 29 = .ok (.if_icmp .eq 6, 3) := by decide +kernel
theorem dX7_turnAll_32 : decode cX7_turnAll 32 = .ok (.goto 32, 3) := by decide +kernel
theorem dX7_turnAll_35 : decode cX7_turnAll 35 = .ok (.aload_n 0, 1) := by decide +kernel
theorem dX7_turnAll_36 : decode cX7_turnAll 36 = .ok (.getfield 7, 3) := by decide +kernel
theorem dX7_turnAll_39 : decode cX7_turnAll 39 = .ok (.iconst 0, 1) := by decide +kernel
theorem dX7_turnAll_40 : decode cX7_turnAll 40 = .ok (.iload 4, 2) := by decide +kernel
theorem dX7_turnAll_42 : decode cX7_turnAll 42 = .ok (.iadd, 1) := by decide +kernel
theorem dX7_turnAll_43 : decode cX7_turnAll 43 = .ok (.iload_n 2, 1) := by decide +kernel
theorem dX7_turnAll_44 : decode cX7_turnAll 44 = .ok (.iastore, 1) := by decide +kernel
theorem dX7_turnAll_45 : decode cX7_turnAll 45 = .ok (.iload_n 2, 1) := by decide +kernel
theorem dX7_turnAll_46 : decode cX7_turnAll 46 = .ok (.ifCond .ne 15, 3) := by decide +kernel
theorem dX7_turnAll_49 : decode cX7_turnAll 49 = .ok (.aload_n 0, 1) := by decide +kernel
theorem dX7_turnAll_50 : decode cX7_turnAll 50 = .ok (.getfield 7, 3) := by decide +kernel
theorem dX7_turnAll_53 : decode cX7_turnAll 53 = .ok (.sipush 128, 3) := by decide +kernel
theorem dX7_turnAll_56 : decode cX7_turnAll 56 = .ok (.iload 4, 2) := by decide +kernel
theorem dX7_turnAll_58 : decode cX7_turnAll 58 = .ok (.iadd, 1) := by decide +kernel
theorem dX7_turnAll_59 : decode cX7_turnAll 59 = .ok (.iconst 0, 1) := by decide +kernel
theorem dX7_turnAll_60 : decode cX7_turnAll 60 = .ok (.iastore, 1) := by decide +kernel
theorem dX7_turnAll_61 : decode cX7_turnAll 61 = .ok (.iinc 3 1, 3) := by decide +kernel
theorem dX7_turnAll_64 : decode cX7_turnAll 64 = .ok (.iinc 4 1, 3) := by decide +kernel
theorem dX7_turnAll_67 : decode cX7_turnAll 67 = .ok (.goto (-62), 3) := by decide +kernel
theorem dX7_turnAll_70 : decode cX7_turnAll 70 = .ok (.iload_n 3, 1) := by decide +kernel
theorem dX7_turnAll_71 : decode cX7_turnAll 71 = .ok (.ireturn, 1) := by decide +kernel
theorem dX7_grey_0 : decode cX7_grey 0 = .ok (.iload_n 2, 1) := by decide +kernel
theorem dX7_grey_1 : decode cX7_grey 1 = .ok (.ifCond .eq 16, 3) := by decide +kernel
theorem dX7_grey_4 : decode cX7_grey 4 = .ok (.iload_n 1, 1) := by decide +kernel
theorem dX7_grey_5 : decode cX7_grey 5 = .ok (.ifCond .lt 12, 3) := by decide +kernel
theorem dX7_grey_8 : decode cX7_grey 8 = .ok (.aload_n 0, 1) := by decide +kernel
theorem dX7_grey_9 : decode cX7_grey 9 = .ok (.iload_n 1, 1) := by decide +kernel
theorem dX7_grey_10 : decode cX7_grey 10 = .ok (.invokevirtual 106, 3) := by decide +kernel
theorem dX7_grey_13 : decode cX7_grey 13 = .ok (.iconst 1, 1) := by decide +kernel
theorem dX7_grey_14 : decode cX7_grey 14 = .ok (.if_icmp .eq 4, 3) := by decide +kernel
theorem dX7_grey_17 : decode cX7_grey 17 = .ok (.return_, 1) := by decide +kernel
theorem dX7_grey_18 : decode cX7_grey 18 = .ok (.aload_n 0, 1) := by decide +kernel
theorem dX7_grey_19 : decode cX7_grey 19 = .ok (.iload_n 1, 1) := by decide +kernel
theorem dX7_grey_20 : decode cX7_grey 20 = .ok (.iconst 2, 1) := by decide +kernel
theorem dX7_grey_21 : decode cX7_grey 21 = .ok (.invokevirtual 139, 3) := by decide +kernel
theorem dX7_grey_24 : decode cX7_grey 24 = .ok (.aload_n 0, 1) := by decide +kernel
theorem dX7_grey_25 : decode cX7_grey 25 = .ok (.getfield 7, 3) := by decide +kernel
theorem dX7_grey_28 : decode cX7_grey 28 = .ok (.sipush 739, 3) := by decide +kernel
theorem dX7_grey_31 : decode cX7_grey 31 = .ok (.dup2, 1) := by decide +kernel
theorem dX7_grey_32 : decode cX7_grey 32 = .ok (.iaload, 1) := by decide +kernel
theorem dX7_grey_33 : decode cX7_grey 33 = .ok (.iconst 1, 1) := by decide +kernel
theorem dX7_grey_34 : decode cX7_grey 34 = .ok (.iadd, 1) := by decide +kernel
theorem dX7_grey_35 : decode cX7_grey 35 = .ok (.iastore, 1) := by decide +kernel
theorem dX7_grey_36 : decode cX7_grey 36 = .ok (.aload_n 0, 1) := by decide +kernel
theorem dX7_grey_37 : decode cX7_grey 37 = .ok (.getfield 7, 3) := by decide +kernel
theorem dX7_grey_40 : decode cX7_grey 40 = .ok (.sipush 384, 3) := by decide +kernel
theorem dX7_grey_43 : decode cX7_grey 43 = .ok (.iload_n 1, 1) := by decide +kernel
theorem dX7_grey_44 : decode cX7_grey 44 = .ok (.iadd, 1) := by decide +kernel
theorem dX7_grey_45 : decode cX7_grey 45 = .ok (.aload_n 0, 1) := by decide +kernel
theorem dX7_grey_46 : decode cX7_grey 46 = .ok (.getfield 7, 3) := by decide +kernel
theorem dX7_grey_49 : decode cX7_grey 49 = .ok (.sipush 739, 3) := by decide +kernel
theorem dX7_grey_52 : decode cX7_grey 52 = .ok (.iaload, 1) := by decide +kernel
theorem dX7_grey_53 : decode cX7_grey 53 = .ok (.iastore, 1) := by decide +kernel
theorem dX7_grey_54 : decode cX7_grey 54 = .ok (.return_, 1) := by decide +kernel
theorem dX7_greyRoots_0 : decode cX7_greyRoots 0 = .ok (.iconst 0, 1) := by decide +kernel
theorem dX7_greyRoots_1 : decode cX7_greyRoots 1 = .ok (.istore_n 1, 1) := by decide +kernel
theorem dX7_greyRoots_2 : decode cX7_greyRoots 2 = .ok (.iload_n 1, 1) := by decide +kernel
theorem dX7_greyRoots_3 : decode cX7_greyRoots 3 = .ok (.bipush 6, 2) := by decide +kernel
theorem dX7_greyRoots_5 : decode cX7_greyRoots 5 = .ok (.if_icmp .ge 24, 3) := by decide +kernel
theorem dX7_greyRoots_8 : decode cX7_greyRoots 8 = .ok (.aload_n 0, 1) := by decide +kernel
theorem dX7_greyRoots_9 : decode cX7_greyRoots 9 = .ok (.aload_n 0, 1) := by decide +kernel
theorem dX7_greyRoots_10 : decode cX7_greyRoots 10 = .ok (.getfield 7, 3) := by decide +kernel
theorem dX7_greyRoots_13 : decode cX7_greyRoots 13 = .ok (.sipush 715, 3) := by decide +kernel
theorem dX7_greyRoots_16 : decode cX7_greyRoots 16 = .ok (.iload_n 1, 1) := by decide +kernel
theorem dX7_greyRoots_17 : decode cX7_greyRoots 17 = .ok (.iadd, 1) := by decide +kernel
theorem dX7_greyRoots_18 : decode cX7_greyRoots 18 = .ok (.iaload, 1) := by decide +kernel
theorem dX7_greyRoots_19 : decode cX7_greyRoots 19 = .ok (.iconst 1, 1) := by decide +kernel
theorem dX7_greyRoots_20 : decode cX7_greyRoots 20 = .ok (.invokevirtual 142, 3) := by decide +kernel
theorem dX7_greyRoots_23 : decode cX7_greyRoots 23 = .ok (.iinc 1 1, 3) := by decide +kernel
theorem dX7_greyRoots_26 : decode cX7_greyRoots 26 = .ok (.goto (-24), 3) := by decide +kernel
theorem dX7_greyRoots_29 : decode cX7_greyRoots 29 = .ok (.return_, 1) := by decide +kernel
theorem dX7_goStart_0 : decode cX7_goStart 0 = .ok (.aload_n 0, 1) := by decide +kernel
theorem dX7_goStart_1 : decode cX7_goStart 1 = .ok (.getfield 7, 3) := by decide +kernel
theorem dX7_goStart_4 : decode cX7_goStart 4 = .ok (.sipush 726, 3) := by decide +kernel
theorem dX7_goStart_7 : decode cX7_goStart 7 = .ok (.iconst 1, 1) := by decide +kernel
theorem dX7_goStart_8 : decode cX7_goStart 8 = .ok (.iastore, 1) := by decide +kernel
theorem dX7_goStart_9 : decode cX7_goStart 9 = .ok (.aload_n 0, 1) := by decide +kernel
theorem dX7_goStart_10 : decode cX7_goStart 10 = .ok (.getfield 7, 3) := by decide +kernel
theorem dX7_goStart_13 : decode cX7_goStart 13 = .ok (.sipush 727, 3) := by decide +kernel
theorem dX7_goStart_16 : decode cX7_goStart 16 = .ok (.iconst (-1), 1) := by decide +kernel
theorem dX7_goStart_17 : decode cX7_goStart 17 = .ok (.iastore, 1) := by decide +kernel
theorem dX7_goStart_18 : decode cX7_goStart 18 = .ok (.aload_n 0, 1) := by decide +kernel
theorem dX7_goStart_19 : decode cX7_goStart 19 = .ok (.getfield 7, 3) := by decide +kernel
theorem dX7_goStart_22 : decode cX7_goStart 22 = .ok (.sipush 728, 3) := by decide +kernel
theorem dX7_goStart_25 : decode cX7_goStart 25 = .ok (.iconst 0, 1) := by decide +kernel
theorem dX7_goStart_26 : decode cX7_goStart 26 = .ok (.iastore, 1) := by decide +kernel
theorem dX7_goStart_27 : decode cX7_goStart 27 = .ok (.aload_n 0, 1) := by decide +kernel
theorem dX7_goStart_28 : decode cX7_goStart 28 = .ok (.getfield 7, 3) := by decide +kernel
theorem dX7_goStart_31 : decode cX7_goStart 31 = .ok (.sipush 740, 3) := by decide +kernel
theorem dX7_goStart_34 : decode cX7_goStart 34 = .ok (.aload_n 0, 1) := by decide +kernel
theorem dX7_goStart_35 : decode cX7_goStart 35 = .ok (.getfield 7, 3) := by decide +kernel
theorem dX7_goStart_38 : decode cX7_goStart 38 = .ok (.sipush 730, 3) := by decide +kernel
theorem dX7_goStart_41 : decode cX7_goStart 41 = .ok (.iaload, 1) := by decide +kernel
theorem dX7_goStart_42 : decode cX7_goStart 42 = .ok (.iastore, 1) := by decide +kernel
theorem dX7_goStart_43 : decode cX7_goStart 43 = .ok (.aload_n 0, 1) := by decide +kernel
theorem dX7_goStart_44 : decode cX7_goStart 44 = .ok (.iconst 3, 1) := by decide +kernel
theorem dX7_goStart_45 : decode cX7_goStart 45 = .ok (.iconst 1, 1) := by decide +kernel
theorem dX7_goStart_46 : decode cX7_goStart 46 = .ok (.invokevirtual 146, 3) := by decide +kernel
theorem dX7_goStart_49 : decode cX7_goStart 49 = .ok (.pop, 1) := by decide +kernel
theorem dX7_goStart_50 : decode cX7_goStart 50 = .ok (.aload_n 0, 1) := by decide +kernel
theorem dX7_goStart_51 : decode cX7_goStart 51 = .ok (.invokevirtual 149, 3) := by decide +kernel
theorem dX7_goStart_54 : decode cX7_goStart 54 = .ok (.aload_n 0, 1) := by decide +kernel
theorem dX7_goStart_55 : decode cX7_goStart 55 = .ok (.iconst 2, 1) := by decide +kernel
theorem dX7_goStart_56 : decode cX7_goStart 56 = .ok (.invokevirtual 122, 3) := by decide +kernel
theorem dX7_goStart_59 : decode cX7_goStart 59 = .ok (.ifCond .ne 7, 3) := by decide +kernel
theorem dX7_goStart_62 : decode cX7_goStart 62 = .ok (.aload_n 0, 1) := by decide +kernel
theorem dX7_goStart_63 : decode cX7_goStart 63 = .ok (.invokevirtual 152, 3) := by decide +kernel
theorem dX7_goStart_66 : decode cX7_goStart 66 = .ok (.return_, 1) := by decide +kernel
theorem dX7_isEcru_0 : decode cX7_isEcru 0 = .ok (.iload_n 1, 1) := by decide +kernel
theorem dX7_isEcru_1 : decode cX7_isEcru 1 = .ok (.ifCond .lt 16, 3) := by decide +kernel
theorem dX7_isEcru_4 : decode cX7_isEcru 4 = .ok (.aload_n 0, 1) := by decide +kernel
theorem dX7_isEcru_5 : decode cX7_isEcru 5 = .ok (.iload_n 1, 1) := by decide +kernel
theorem dX7_isEcru_6 : decode cX7_isEcru 6 = .ok (.invokevirtual 106, 3) := by decide +kernel
theorem dX7_isEcru_9 : decode cX7_isEcru 9 = .ok (.iconst 1, 1) := by decide +kernel
theorem dX7_isEcru_10 : decode cX7_isEcru 10 = .ok (.if_icmp .ne 7, 3) := by decide +kernel
theorem dX7_isEcru_13 : decode cX7_isEcru 13 = .ok (.iconst 1, 1) := by decide +kernel
theorem dX7_isEcru_14 : decode cX7_isEcru 14 = .ok (.goto 4, 3) := by decide +kernel
theorem dX7_isEcru_17 : decode cX7_isEcru 17 = .ok (.iconst 0, 1) := by decide +kernel
theorem dX7_isEcru_18 : decode cX7_isEcru 18 = .ok (.ireturn, 1) := by decide +kernel
theorem dX7_goEnd_0 : decode cX7_goEnd 0 = .ok (.aload_n 0, 1) := by decide +kernel
theorem dX7_goEnd_1 : decode cX7_goEnd 1 = .ok (.getfield 7, 3) := by decide +kernel
theorem dX7_goEnd_4 : decode cX7_goEnd 4 = .ok (.sipush 726, 3) := by decide +kernel
theorem dX7_goEnd_7 : decode cX7_goEnd 7 = .ok (.iconst 0, 1) := by decide +kernel
theorem dX7_goEnd_8 : decode cX7_goEnd 8 = .ok (.iastore, 1) := by decide +kernel
theorem dX7_goEnd_9 : decode cX7_goEnd 9 = .ok (.aload_n 0, 1) := by decide +kernel
theorem dX7_goEnd_10 : decode cX7_goEnd 10 = .ok (.getfield 7, 3) := by decide +kernel
theorem dX7_goEnd_13 : decode cX7_goEnd 13 = .ok (.sipush 727, 3) := by decide +kernel
theorem dX7_goEnd_16 : decode cX7_goEnd 16 = .ok (.iconst (-1), 1) := by decide +kernel
theorem dX7_goEnd_17 : decode cX7_goEnd 17 = .ok (.iastore, 1) := by decide +kernel
theorem dX7_goEnd_18 : decode cX7_goEnd 18 = .ok (.aload_n 0, 1) := by decide +kernel
theorem dX7_goEnd_19 : decode cX7_goEnd 19 = .ok (.getfield 7, 3) := by decide +kernel
theorem dX7_goEnd_22 : decode cX7_goEnd 22 = .ok (.sipush 728, 3) := by decide +kernel
theorem dX7_goEnd_25 : decode cX7_goEnd 25 = .ok (.iconst 0, 1) := by decide +kernel
theorem dX7_goEnd_26 : decode cX7_goEnd 26 = .ok (.iastore, 1) := by decide +kernel
theorem dX7_goEnd_27 : decode cX7_goEnd 27 = .ok (.iconst 0, 1) := by decide +kernel
theorem dX7_goEnd_28 : decode cX7_goEnd 28 = .ok (.istore_n 1, 1) := by decide +kernel
theorem dX7_goEnd_29 : decode cX7_goEnd 29 = .ok (.iload_n 1, 1) := by decide +kernel
theorem dX7_goEnd_30 : decode cX7_goEnd 30 = .ok (.bipush 6, 2) := by decide +kernel
theorem dX7_goEnd_32 : decode cX7_goEnd 32 = .ok (.if_icmp .ge 21, 3) := by decide +kernel
theorem dX7_goEnd_35 : decode cX7_goEnd 35 = .ok (.aload_n 0, 1) := by decide +kernel
theorem dX7_goEnd_36 : decode cX7_goEnd 36 = .ok (.sipush 715, 3) := by decide +kernel
theorem dX7_goEnd_39 : decode cX7_goEnd 39 = .ok (.iload_n 1, 1) := by decide +kernel
theorem dX7_goEnd_40 : decode cX7_goEnd 40 = .ok (.iadd, 1) := by decide +kernel
theorem dX7_goEnd_41 : decode cX7_goEnd 41 = .ok (.sipush 732, 3) := by decide +kernel
theorem dX7_goEnd_44 : decode cX7_goEnd 44 = .ok (.invokevirtual 155, 3) := by decide +kernel
theorem dX7_goEnd_47 : decode cX7_goEnd 47 = .ok (.iinc 1 1, 3) := by decide +kernel
theorem dX7_goEnd_50 : decode cX7_goEnd 50 = .ok (.goto (-21), 3) := by decide +kernel
theorem dX7_goEnd_53 : decode cX7_goEnd 53 = .ok (.iconst 0, 1) := by decide +kernel
theorem dX7_goEnd_54 : decode cX7_goEnd 54 = .ok (.istore_n 1, 1) := by decide +kernel
theorem dX7_goEnd_55 : decode cX7_goEnd 55 = .ok (.iload_n 1, 1) := by decide +kernel
theorem dX7_goEnd_56 : decode cX7_goEnd 56 = .ok (.iconst 4, 1) := by decide +kernel
theorem dX7_goEnd_57 : decode cX7_goEnd 57 = .ok (.if_icmp .ge 21, 3) := by decide +kernel
theorem dX7_goEnd_60 : decode cX7_goEnd 60 = .ok (.aload_n 0, 1) := by decide +kernel
theorem dX7_goEnd_61 : decode cX7_goEnd 61 = .ok (.sipush 721, 3) := by decide +kernel
theorem dX7_goEnd_64 : decode cX7_goEnd 64 = .ok (.iload_n 1, 1) := by decide +kernel
theorem dX7_goEnd_65 : decode cX7_goEnd 65 = .ok (.iadd, 1) := by decide +kernel
theorem dX7_goEnd_66 : decode cX7_goEnd 66 = .ok (.sipush 734, 3) := by decide +kernel
theorem dX7_goEnd_69 : decode cX7_goEnd 69 = .ok (.invokevirtual 155, 3) := by decide +kernel
theorem dX7_goEnd_72 : decode cX7_goEnd 72 = .ok (.iinc 1 1, 3) := by decide +kernel
theorem dX7_goEnd_75 : decode cX7_goEnd 75 = .ok (.goto (-20), 3) := by decide +kernel
theorem dX7_goEnd_78 : decode cX7_goEnd 78 = .ok (.iconst 0, 1) := by decide +kernel
theorem dX7_goEnd_79 : decode cX7_goEnd 79 = .ok (.istore_n 1, 1) := by decide +kernel
theorem dX7_goEnd_80 : decode cX7_goEnd 80 = .ok (.iload_n 1, 1) := by decide +kernel
theorem dX7_goEnd_81 : decode cX7_goEnd 81 = .ok (.sipush 128, 3) := by decide +kernel
theorem dX7_goEnd_84 : decode cX7_goEnd 84 = .ok (.if_icmp .ge 62, 3) := by decide +kernel
theorem dX7_goEnd_87 : decode cX7_goEnd 87 = .ok (.aload_n 0, 1) := by decide +kernel
theorem dX7_goEnd_88 : decode cX7_goEnd 88 = .ok (.iload_n 1, 1) := by decide +kernel
theorem dX7_goEnd_89 : decode cX7_goEnd 89 = .ok (.invokevirtual 109, 3) := by decide +kernel
theorem dX7_goEnd_92 : decode cX7_goEnd 92 = .ok (.ifCond .eq 48, 3) := by decide +kernel
theorem dX7_goEnd_95 : decode cX7_goEnd 95 = .ok (.aload_n 0, 1) := by decide +kernel
theorem dX7_goEnd_96 : decode cX7_goEnd 96 = .ok (.iload_n 1, 1) := by decide +kernel
theorem dX7_goEnd_97 : decode cX7_goEnd 97 = .ok (.invokevirtual 158, 3) := by decide +kernel
theorem dX7_goEnd_100 : decode cX7_goEnd 100 = .ok (.ifCond .eq 6, 3) := by decide +kernel
theorem dX7_goEnd_103 : decode cX7_goEnd 103 = .ok (.goto 37, 3) := by decide +kernel
theorem dX7_goEnd_106 : decode cX7_goEnd 106 = .ok (.iconst 0, 1) := by decide +kernel
theorem dX7_goEnd_107 : decode cX7_goEnd 107 = .ok (.istore_n 2, 1) := by decide +kernel
theorem dX7_goEnd_108 : decode cX7_goEnd 108 = .ok (.iload_n 2, 1) := by decide +kernel
theorem dX7_goEnd_109 : decode cX7_goEnd 109 = .ok (.aload_n 0, 1) := by decide +kernel
theorem dX7_goEnd_110 : decode cX7_goEnd 110 = .ok (.getfield 7, 3) := by decide +kernel
theorem dX7_goEnd_113 : decode cX7_goEnd 113 = .ok (.sipush 128, 3) := by decide +kernel
theorem dX7_goEnd_116 : decode cX7_goEnd 116 = .ok (.iload_n 1, 1) := by decide +kernel
theorem dX7_goEnd_117 : decode cX7_goEnd 117 = .ok (.iadd, 1) := by decide +kernel
theorem dX7_goEnd_118 : decode cX7_goEnd 118 = .ok (.iaload, 1) := by decide +kernel
theorem dX7_goEnd_119 : decode cX7_goEnd 119 = .ok (.if_icmp .ge 21, 3) := by decide +kernel
theorem dX7_goEnd_122 : decode cX7_goEnd 122 = .ok (.aload_n 0, 1) := by decide +kernel
theorem dX7_goEnd_123 : decode cX7_goEnd 123 = .ok (.iload_n 1, 1) := by decide +kernel
theorem dX7_goEnd_124 : decode cX7_goEnd 124 = .ok (.iload_n 2, 1) := by decide +kernel
theorem dX7_goEnd_125 : decode cX7_goEnd 125 = .ok (.invokestatic 161, 3) := by decide +kernel
theorem dX7_goEnd_128 : decode cX7_goEnd 128 = .ok (.sipush 732, 3) := by decide +kernel
theorem dX7_goEnd_131 : decode cX7_goEnd 131 = .ok (.invokevirtual 155, 3) := by decide +kernel
theorem dX7_goEnd_134 : decode cX7_goEnd 134 = .ok (.iinc 2 1, 3) := by decide +kernel
theorem dX7_goEnd_137 : decode cX7_goEnd 137 = .ok (.goto (-29), 3) := by decide +kernel
theorem dX7_goEnd_140 : decode cX7_goEnd 140 = .ok (.iinc 1 1, 3) := by decide +kernel
theorem dX7_goEnd_143 : decode cX7_goEnd 143 = .ok (.goto (-63), 3) := by decide +kernel
theorem dX7_goEnd_146 : decode cX7_goEnd 146 = .ok (.aload_n 0, 1) := by decide +kernel
theorem dX7_goEnd_147 : decode cX7_goEnd 147 = .ok (.iconst 1, 1) := by decide +kernel
theorem dX7_goEnd_148 : decode cX7_goEnd 148 = .ok (.iconst 0, 1) := by decide +kernel
theorem dX7_goEnd_149 : decode cX7_goEnd 149 = .ok (.invokevirtual 146, 3) := by decide +kernel
theorem dX7_goEnd_152 : decode cX7_goEnd 152 = .ok (.istore_n 1, 1) := by decide +kernel
theorem dX7_goEnd_153 : decode cX7_goEnd 153 = .ok (.aload_n 0, 1) := by decide +kernel
theorem dX7_goEnd_154 : decode cX7_goEnd 154 = .ok (.getfield 7, 3) := by decide +kernel
theorem dX7_goEnd_157 : decode cX7_goEnd 157 = .ok (.sipush 729, 3) := by decide +kernel
theorem dX7_goEnd_160 : decode cX7_goEnd 160 = .ok (.dup2, 1) := by decide +kernel
theorem dX7_goEnd_161 : decode cX7_goEnd 161 = .ok (.iaload, 1) := by decide +kernel
theorem dX7_goEnd_162 : decode cX7_goEnd 162 = .ok (.iconst 1, 1) := by decide +kernel
theorem dX7_goEnd_163 : decode cX7_goEnd 163 = .ok (.iadd, 1) := by decide +kernel
theorem dX7_goEnd_164 : decode cX7_goEnd 164 = .ok (.iastore, 1) := by decide +kernel
theorem dX7_goEnd_165 : decode cX7_goEnd 165 = .ok (.aload_n 0, 1) := by decide +kernel
theorem dX7_goEnd_166 : decode cX7_goEnd 166 = .ok (.aload_n 0, 1) := by decide +kernel
theorem dX7_goEnd_167 : decode cX7_goEnd 167 = .ok (.getfield 7, 3) := by decide +kernel
theorem dX7_goEnd_170 : decode cX7_goEnd 170 = .ok (.sipush 730, 3) := by decide +kernel
theorem dX7_goEnd_173 : decode cX7_goEnd 173 = .ok (.iaload, 1) := by decide +kernel
theorem dX7_goEnd_174 : decode cX7_goEnd 174 = .ok (.aload_n 0, 1) := by decide +kernel
theorem dX7_goEnd_175 : decode cX7_goEnd 175 = .ok (.getfield 7, 3) := by decide +kernel
theorem dX7_goEnd_178 : decode cX7_goEnd 178 = .ok (.sipush 740, 3) := by decide +kernel
theorem dX7_goEnd_181 : decode cX7_goEnd 181 = .ok (.iaload, 1) := by decide +kernel
theorem dX7_goEnd_182 : decode cX7_goEnd 182 = .ok (.isub, 1) := by decide +kernel
theorem dX7_goEnd_183 : decode cX7_goEnd 183 = .ok (.iload_n 1, 1) := by decide +kernel
theorem dX7_goEnd_184 : decode cX7_goEnd 184 = .ok (.aload_n 0, 1) := by decide +kernel
theorem dX7_goEnd_185 : decode cX7_goEnd 185 = .ok (.invokevirtual 164, 3) := by decide +kernel
theorem dX7_goEnd_188 : decode cX7_goEnd 188 = .ok (.invokevirtual 168, 3) := by decide +kernel
theorem dX7_goEnd_191 : decode cX7_goEnd 191 = .ok (.return_, 1) := by decide +kernel
theorem dX7_lose_0 : decode cX7_lose 0 = .ok (.aload_n 0, 1) := by decide +kernel
theorem dX7_lose_1 : decode cX7_lose 1 = .ok (.aload_n 0, 1) := by decide +kernel
theorem dX7_lose_2 : decode cX7_lose 2 = .ok (.getfield 7, 3) := by decide +kernel
theorem dX7_lose_5 : decode cX7_lose 5 = .ok (.iload_n 1, 1) := by decide +kernel
theorem dX7_lose_6 : decode cX7_lose 6 = .ok (.iaload, 1) := by decide +kernel
theorem dX7_lose_7 : decode cX7_lose 7 = .ok (.invokevirtual 158, 3) := by decide +kernel
theorem dX7_lose_10 : decode cX7_lose 10 = .ok (.ifCond .ne 4, 3) := by decide +kernel
theorem dX7_lose_13 : decode cX7_lose 13 = .ok (.return_, 1) := by decide +kernel
theorem dX7_lose_14 : decode cX7_lose 14 = .ok (.aload_n 0, 1) := by decide +kernel
theorem dX7_lose_15 : decode cX7_lose 15 = .ok (.getfield 7, 3) := by decide +kernel
theorem dX7_lose_18 : decode cX7_lose 18 = .ok (.iload_n 1, 1) := by decide +kernel
theorem dX7_lose_19 : decode cX7_lose 19 = .ok (.iconst (-1), 1) := by decide +kernel
theorem dX7_lose_20 : decode cX7_lose 20 = .ok (.iastore, 1) := by decide +kernel
theorem dX7_lose_21 : decode cX7_lose 21 = .ok (.aload_n 0, 1) := by decide +kernel
theorem dX7_lose_22 : decode cX7_lose 22 = .ok (.getfield 7, 3) := by decide +kernel
theorem dX7_lose_25 : decode cX7_lose 25 = .ok (.iload_n 2, 1) := by decide +kernel
theorem dX7_lose_26 : decode cX7_lose 26 = .ok (.dup2, 1) := by decide +kernel
theorem dX7_lose_27 : decode cX7_lose 27 = .ok (.iaload, 1) := by decide +kernel
theorem dX7_lose_28 : decode cX7_lose 28 = .ok (.iconst 1, 1) := by decide +kernel
theorem dX7_lose_29 : decode cX7_lose 29 = .ok (.iadd, 1) := by decide +kernel
theorem dX7_lose_30 : decode cX7_lose 30 = .ok (.iastore, 1) := by decide +kernel
theorem dX7_lose_31 : decode cX7_lose 31 = .ok (.return_, 1) := by decide +kernel
theorem dX7_tell_0 : decode cX7_tell 0 = .ok (.bipush 47, 2) := by decide +kernel
theorem dX7_tell_2 : decode cX7_tell 2 = .ok (.istore 4, 2) := by decide +kernel
theorem dX7_tell_4 : decode cX7_tell 4 = .ok (.iload 4, 2) := by decide +kernel
theorem dX7_tell_6 : decode cX7_tell 6 = .ok (.iconst 3, 1) := by decide +kernel
theorem dX7_tell_7 : decode cX7_tell 7 = .ok (.if_icmp .lt 33, 3) := by decide +kernel
theorem dX7_tell_10 : decode cX7_tell 10 = .ok (.aload_n 0, 1) := by decide +kernel
theorem dX7_tell_11 : decode cX7_tell 11 = .ok (.getfield 7, 3) := by decide +kernel
theorem dX7_tell_14 : decode cX7_tell 14 = .ok (.sipush 742, 3) := by decide +kernel
theorem dX7_tell_17 : decode cX7_tell 17 = .ok (.iload 4, 2) := by decide +kernel
theorem dX7_tell_19 : decode cX7_tell 19 = .ok (.iadd, 1) := by decide +kernel
theorem dX7_tell_20 : decode cX7_tell 20 = .ok (.aload_n 0, 1) := by decide +kernel
theorem dX7_tell_21 : decode cX7_tell 21 = .ok (.getfield 7, 3) := by decide +kernel
theorem dX7_tell_24 : decode cX7_tell 24 = .ok (.sipush 742, 3) := by decide +kernel
theorem dX7_tell_27 : decode cX7_tell 27 = .ok (.iload 4, 2) := by decide +kernel
theorem dX7_tell_29 : decode cX7_tell 29 = .ok (.iadd, 1) := by decide +kernel
theorem dX7_tell_30 : decode cX7_tell 30 = .ok (.iconst 3, 1) := by decide +kernel
theorem dX7_tell_31 : decode cX7_tell 31 = .ok (.isub, 1) := by decide +kernel
theorem dX7_tell_32 : decode cX7_tell 32 = .ok (.iaload, 1) := by decide +kernel
theorem dX7_tell_33 : decode cX7_tell 33 = .ok (.iastore, 1) := by decide +kernel
theorem dX7_tell_34 : decode cX7_tell 34 = .ok (.iinc 4 (-1), 3) := by decide +kernel
theorem dX7_tell_37 : decode cX7_tell 37 = .ok (.goto (-33), 3) := by decide +kernel
theorem dX7_tell_40 : decode cX7_tell 40 = .ok (.aload_n 0, 1) := by decide +kernel
theorem dX7_tell_41 : decode cX7_tell 41 = .ok (.getfield 7, 3) := by decide +kernel
theorem dX7_tell_44 : decode cX7_tell 44 = .ok (.sipush 742, 3) := by decide +kernel
theorem dX7_tell_47 : decode cX7_tell 47 = .ok (.iload_n 1, 1) := by decide +kernel
theorem dX7_tell_48 : decode cX7_tell 48 = .ok (.iastore, 1) := by decide +kernel
theorem dX7_tell_49 : decode cX7_tell 49 = .ok (.aload_n 0, 1) := by decide +kernel
theorem dX7_tell_50 : decode cX7_tell 50 = .ok (.getfield 7, 3) := by decide +kernel
theorem dX7_tell_53 : decode cX7_tell 53 = .ok (.sipush 743, 3) := by decide +kernel
theorem dX7_tell_56 : decode cX7_tell 56 = .ok (.iload_n 2, 1) := by decide +kernel
theorem dX7_tell_57 : decode cX7_tell 57 = .ok (.iastore, 1) := by decide +kernel
theorem dX7_tell_58 : decode cX7_tell 58 = .ok (.aload_n 0, 1) := by decide +kernel
theorem dX7_tell_59 : decode cX7_tell 59 = .ok (.getfield 7, 3) := by decide +kernel
theorem dX7_tell_62 : decode cX7_tell 62 = .ok (.sipush 744, 3) := by decide +kernel
theorem dX7_tell_65 : decode cX7_tell 65 = .ok (.iload_n 3, 1) := by decide +kernel
theorem dX7_tell_66 : decode cX7_tell 66 = .ok (.iastore, 1) := by decide +kernel
theorem dX7_tell_67 : decode cX7_tell 67 = .ok (.aload_n 0, 1) := by decide +kernel
theorem dX7_tell_68 : decode cX7_tell 68 = .ok (.getfield 7, 3) := by decide +kernel
theorem dX7_tell_71 : decode cX7_tell 71 = .ok (.sipush 741, 3) := by decide +kernel
theorem dX7_tell_74 : decode cX7_tell 74 = .ok (.iaload, 1) := by decide +kernel
theorem dX7_tell_75 : decode cX7_tell 75 = .ok (.bipush 16, 2) := by decide +kernel
theorem dX7_tell_77 : decode cX7_tell 77 = .ok (.if_icmp .ge 15, 3) := by decide +kernel
theorem dX7_tell_80 : decode cX7_tell 80 = .ok (.aload_n 0, 1) := by decide +kernel
theorem dX7_tell_81 : decode cX7_tell 81 = .ok (.getfield 7, 3) := by decide +kernel
theorem dX7_tell_84 : decode cX7_tell 84 = .ok (.sipush 741, 3) := by decide +kernel
theorem dX7_tell_87 : decode cX7_tell 87 = .ok (.dup2, 1) := by decide +kernel
theorem dX7_tell_88 : decode cX7_tell 88 = .ok (.iaload, 1) := by decide +kernel
theorem dX7_tell_89 : decode cX7_tell 89 = .ok (.iconst 1, 1) := by decide +kernel
theorem dX7_tell_90 : decode cX7_tell 90 = .ok (.iadd, 1) := by decide +kernel
theorem dX7_tell_91 : decode cX7_tell 91 = .ok (.iastore, 1) := by decide +kernel
theorem dX7_tell_92 : decode cX7_tell 92 = .ok (.return_, 1) := by decide +kernel
theorem dX7_isAhead_0 : decode cX7_isAhead 0 = .ok (.aload_n 0, 1) := by decide +kernel
theorem dX7_isAhead_1 : decode cX7_isAhead 1 = .ok (.getfield 7, 3) := by decide +kernel
theorem dX7_isAhead_4 : decode cX7_isAhead 4 = .ok (.sipush 384, 3) := by decide +kernel
theorem dX7_isAhead_7 : decode cX7_isAhead 7 = .ok (.iload_n 1, 1) := by decide +kernel
theorem dX7_isAhead_8 : decode cX7_isAhead 8 = .ok (.iadd, 1) := by decide +kernel
theorem dX7_isAhead_9 : decode cX7_isAhead 9 = .ok (.iaload, 1) := by decide +kernel
theorem dX7_isAhead_10 : decode cX7_isAhead 10 = .ok (.aload_n 0, 1) := by decide +kernel
theorem dX7_isAhead_11 : decode cX7_isAhead 11 = .ok (.getfield 7, 3) := by decide +kernel
theorem dX7_isAhead_14 : decode cX7_isAhead 14 = .ok (.sipush 384, 3) := by decide +kernel
theorem dX7_isAhead_17 : decode cX7_isAhead 17 = .ok (.iload_n 2, 1) := by decide +kernel
theorem dX7_isAhead_18 : decode cX7_isAhead 18 = .ok (.iadd, 1) := by decide +kernel
theorem dX7_isAhead_19 : decode cX7_isAhead 19 = .ok (.iaload, 1) := by decide +kernel
theorem dX7_isAhead_20 : decode cX7_isAhead 20 = .ok (.isub, 1) := by decide +kernel
theorem dX7_isAhead_21 : decode cX7_isAhead 21 = .ok (.istore_n 3, 1) := by decide +kernel
theorem dX7_isAhead_22 : decode cX7_isAhead 22 = .ok (.aload_n 0, 1) := by decide +kernel
theorem dX7_isAhead_23 : decode cX7_isAhead 23 = .ok (.getfield 7, 3) := by decide +kernel
theorem dX7_isAhead_26 : decode cX7_isAhead 26 = .ok (.sipush 736, 3) := by decide +kernel
theorem dX7_isAhead_29 : decode cX7_isAhead 29 = .ok (.iaload, 1) := by decide +kernel
theorem dX7_isAhead_30 : decode cX7_isAhead 30 = .ok (.tableswitch 82 0 2 #[26, 36, 46], 26) := by decide +kernel
theorem dX7_isAhead_56 : decode cX7_isAhead 56 = .ok (.iload_n 3, 1) := by decide +kernel
theorem dX7_isAhead_57 : decode cX7_isAhead 57 = .ok (.ifCond .ge 7, 3) := by decide +kernel
theorem dX7_isAhead_60 : decode cX7_isAhead 60 = .ok (.iconst 1, 1) := by decide +kernel
theorem dX7_isAhead_61 : decode cX7_isAhead 61 = .ok (.goto 4, 3) := by decide +kernel
theorem dX7_isAhead_64 : decode cX7_isAhead 64 = .ok (.iconst 0, 1) := by decide +kernel
theorem dX7_isAhead_65 : decode cX7_isAhead 65 = .ok (.ireturn, 1) := by decide +kernel
theorem dX7_isAhead_66 : decode cX7_isAhead 66 = .ok (.iload_n 3, 1) := by decide +kernel
theorem dX7_isAhead_67 : decode cX7_isAhead 67 = .ok (.ifCond .le 7, 3) := by decide +kernel
theorem dX7_isAhead_70 : decode cX7_isAhead 70 = .ok (.iconst 1, 1) := by decide +kernel
theorem dX7_isAhead_71 : decode cX7_isAhead 71 = .ok (.goto 4, 3) := by decide +kernel
theorem dX7_isAhead_74 : decode cX7_isAhead 74 = .ok (.iconst 0, 1) := by decide +kernel
theorem dX7_isAhead_75 : decode cX7_isAhead 75 = .ok (.ireturn, 1) := by decide +kernel
theorem dX7_isAhead_76 : decode cX7_isAhead 76 = .ok (.aload_n 0, 1) := by decide +kernel
theorem dX7_isAhead_77 : decode cX7_isAhead 77 = .ok (.iload_n 1, 1) := by decide +kernel
theorem dX7_isAhead_78 : decode cX7_isAhead 78 = .ok (.invokevirtual 98, 3) := by decide +kernel
theorem dX7_isAhead_81 : decode cX7_isAhead 81 = .ok (.aload_n 0, 1) := by decide +kernel
theorem dX7_isAhead_82 : decode cX7_isAhead 82 = .ok (.iload_n 2, 1) := by decide +kernel
theorem dX7_isAhead_83 : decode cX7_isAhead 83 = .ok (.invokevirtual 98, 3) := by decide +kernel
theorem dX7_isAhead_86 : decode cX7_isAhead 86 = .ok (.if_icmp .lt 20, 3) := by decide +kernel
theorem dX7_isAhead_89 : decode cX7_isAhead 89 = .ok (.aload_n 0, 1) := by decide +kernel
theorem dX7_isAhead_90 : decode cX7_isAhead 90 = .ok (.iload_n 1, 1) := by decide +kernel
theorem dX7_isAhead_91 : decode cX7_isAhead 91 = .ok (.invokevirtual 98, 3) := by decide +kernel
theorem dX7_isAhead_94 : decode cX7_isAhead 94 = .ok (.aload_n 0, 1) := by decide +kernel
theorem dX7_isAhead_95 : decode cX7_isAhead 95 = .ok (.iload_n 2, 1) := by decide +kernel
theorem dX7_isAhead_96 : decode cX7_isAhead 96 = .ok (.invokevirtual 98, 3) := by decide +kernel
theorem dX7_isAhead_99 : decode cX7_isAhead 99 = .ok (.if_icmp .ne 11, 3) := by decide +kernel
theorem dX7_isAhead_102 : decode cX7_isAhead 102 = .ok (.iload_n 3, 1) := by decide +kernel
theorem dX7_isAhead_103 : decode cX7_isAhead 103 = .ok (.ifCond .ge 7, 3) := by decide +kernel
theorem dX7_isAhead_106 : decode cX7_isAhead 106 = .ok (.iconst 1, 1) := by decide +kernel
theorem dX7_isAhead_107 : decode cX7_isAhead 107 = .ok (.goto 4, 3) := by decide +kernel
theorem dX7_isAhead_110 : decode cX7_isAhead 110 = .ok (.iconst 0, 1) := by decide +kernel
theorem dX7_isAhead_111 : decode cX7_isAhead 111 = .ok (.ireturn, 1) := by decide +kernel
theorem dX7_isAhead_112 : decode cX7_isAhead 112 = .ok (.iload_n 1, 1) := by decide +kernel
theorem dX7_isAhead_113 : decode cX7_isAhead 113 = .ok (.iload_n 2, 1) := by decide +kernel
theorem dX7_isAhead_114 : decode cX7_isAhead 114 = .ok (.if_icmp .ge 7, 3) := by decide +kernel
theorem dX7_isAhead_117 : decode cX7_isAhead 117 = .ok (.iconst 1, 1) := by decide +kernel
theorem dX7_isAhead_118 : decode cX7_isAhead 118 = .ok (.goto 4, 3) := by decide +kernel
theorem dX7_isAhead_121 : decode cX7_isAhead 121 = .ok (.iconst 0, 1) := by decide +kernel
theorem dX7_isAhead_122 : decode cX7_isAhead 122 = .ok (.ireturn, 1) := by decide +kernel
theorem dX7_clearOut_0 : decode cX7_clearOut 0 = .ok (.iconst 0, 1) := by decide +kernel
theorem dX7_clearOut_1 : decode cX7_clearOut 1 = .ok (.istore_n 1, 1) := by decide +kernel
theorem dX7_clearOut_2 : decode cX7_clearOut 2 = .ok (.iload_n 1, 1) := by decide +kernel
theorem dX7_clearOut_3 : decode cX7_clearOut 3 = .ok (.sipush 128, 3) := by decide +kernel
theorem dX7_clearOut_6 : decode cX7_clearOut 6 = .ok (.if_icmp .ge 16, 3) := by decide +kernel
theorem dX7_clearOut_9 : decode cX7_clearOut 9 = .ok (.aload_n 0, 1) := by decide +kernel
theorem dX7_clearOut_10 : decode cX7_clearOut 10 = .ok (.getfield 13, 3) := by decide +kernel
theorem dX7_clearOut_13 : decode cX7_clearOut 13 = .ok (.iload_n 1, 1) := by decide +kernel
theorem dX7_clearOut_14 : decode cX7_clearOut 14 = .ok (.iconst 0, 1) := by decide +kernel
theorem dX7_clearOut_15 : decode cX7_clearOut 15 = .ok (.bastore, 1) := by decide +kernel
theorem dX7_clearOut_16 : decode cX7_clearOut 16 = .ok (.iinc 1 1, 3) := by decide +kernel
theorem dX7_clearOut_19 : decode cX7_clearOut 19 = .ok (.goto (-17), 3) := by decide +kernel
theorem dX7_clearOut_22 : decode cX7_clearOut 22 = .ok (.return_, 1) := by decide +kernel
theorem dX7_nextGrey_0 : decode cX7_nextGrey 0 = .ok (.iconst (-1), 1) := by decide +kernel
theorem dX7_nextGrey_1 : decode cX7_nextGrey 1 = .ok (.istore_n 1, 1) := by decide +kernel
theorem dX7_nextGrey_2 : decode cX7_nextGrey 2 = .ok (.iconst 0, 1) := by decide +kernel
theorem dX7_nextGrey_3 : decode cX7_nextGrey 3 = .ok (.istore_n 2, 1) := by decide +kernel
theorem dX7_nextGrey_4 : decode cX7_nextGrey 4 = .ok (.iload_n 2, 1) := by decide +kernel
theorem dX7_nextGrey_5 : decode cX7_nextGrey 5 = .ok (.sipush 128, 3) := by decide +kernel
theorem dX7_nextGrey_8 : decode cX7_nextGrey 8 = .ok (.if_icmp .ge 53, 3) := by decide +kernel
theorem dX7_nextGrey_11 : decode cX7_nextGrey 11 = .ok (.aload_n 0, 1) := by decide +kernel
theorem dX7_nextGrey_12 : decode cX7_nextGrey 12 = .ok (.iload_n 2, 1) := by decide +kernel
theorem dX7_nextGrey_13 : decode cX7_nextGrey 13 = .ok (.invokevirtual 102, 3) := by decide +kernel
theorem dX7_nextGrey_16 : decode cX7_nextGrey 16 = .ok (.ifCond .eq 39, 3) := by decide +kernel
theorem dX7_nextGrey_19 : decode cX7_nextGrey 19 = .ok (.aload_n 0, 1) := by decide +kernel
theorem dX7_nextGrey_20 : decode cX7_nextGrey 20 = .ok (.iload_n 2, 1) := by decide +kernel
theorem dX7_nextGrey_21 : decode cX7_nextGrey 21 = .ok (.invokevirtual 106, 3) := by decide +kernel
theorem dX7_nextGrey_24 : decode cX7_nextGrey 24 = .ok (.iconst 2, 1) := by decide +kernel
theorem dX7_nextGrey_25 : decode cX7_nextGrey 25 = .ok (.if_icmp .ne 30, 3) := by decide +kernel
theorem dX7_nextGrey_28 : decode cX7_nextGrey 28 = .ok (.aload_n 0, 1) := by decide +kernel
theorem dX7_nextGrey_29 : decode cX7_nextGrey 29 = .ok (.getfield 13, 3) := by decide +kernel
theorem dX7_nextGrey_32 : decode cX7_nextGrey 32 = .ok (.iload_n 2, 1) := by decide +kernel
theorem dX7_nextGrey_33 : decode cX7_nextGrey 33 = .ok (.baload, 1) := by decide +kernel
theorem dX7_nextGrey_34 : decode cX7_nextGrey 34 = .ok (.ifCond .eq 6, 3) := by decide +kernel
theorem dX7_nextGrey_37 : decode cX7_nextGrey 37 = .ok (.goto 18, 3) := by decide +kernel
theorem dX7_nextGrey_40 : decode cX7_nextGrey 40 = .ok (.iload_n 1, 1) := by decide +kernel
theorem dX7_nextGrey_41 : decode cX7_nextGrey 41 = .ok (.ifCond .lt 12, 3) := by decide +kernel
theorem dX7_nextGrey_44 : decode cX7_nextGrey 44 = .ok (.aload_n 0, 1) := by decide +kernel
theorem dX7_nextGrey_45 : decode cX7_nextGrey 45 = .ok (.iload_n 2, 1) := by decide +kernel
theorem dX7_nextGrey_46 : decode cX7_nextGrey 46 = .ok (.iload_n 1, 1) := by decide +kernel
theorem dX7_nextGrey_47 : decode cX7_nextGrey 47 = .ok (.invokevirtual 171, 3) := by decide +kernel
theorem dX7_nextGrey_50 : decode cX7_nextGrey 50 = .ok (.ifCond .eq 5, 3) := by decide +kernel
theorem dX7_nextGrey_53 : decode cX7_nextGrey 53 = .ok (.iload_n 2, 1) := by decide +kernel
theorem dX7_nextGrey_54 : decode cX7_nextGrey 54 = .ok (.istore_n 1, 1) := by decide +kernel
theorem dX7_nextGrey_55 : decode cX7_nextGrey 55 = .ok (.iinc 2 1, 3) := by decide +kernel
theorem dX7_nextGrey_58 : decode cX7_nextGrey 58 = .ok (.goto (-54), 3) := by decide +kernel
theorem dX7_nextGrey_61 : decode cX7_nextGrey 61 = .ok (.iload_n 1, 1) := by decide +kernel
theorem dX7_nextGrey_62 : decode cX7_nextGrey 62 = .ok (.ireturn, 1) := by decide +kernel
theorem dX7_goStep_0 : decode cX7_goStep 0 = .ok (.aload_n 0, 1) := by decide +kernel
theorem dX7_goStep_1 : decode cX7_goStep 1 = .ok (.getfield 7, 3) := by decide +kernel
theorem dX7_goStep_4 : decode cX7_goStep 4 = .ok (.sipush 730, 3) := by decide +kernel
theorem dX7_goStep_7 : decode cX7_goStep 7 = .ok (.dup2, 1) := by decide +kernel
theorem dX7_goStep_8 : decode cX7_goStep 8 = .ok (.iaload, 1) := by decide +kernel
theorem dX7_goStep_9 : decode cX7_goStep 9 = .ok (.iconst 1, 1) := by decide +kernel
theorem dX7_goStep_10 : decode cX7_goStep 10 = .ok (.iadd, 1) := by decide +kernel
theorem dX7_goStep_11 : decode cX7_goStep 11 = .ok (.iastore, 1) := by decide +kernel
theorem dX7_goStep_12 : decode cX7_goStep 12 = .ok (.aload_n 0, 1) := by decide +kernel
theorem dX7_goStep_13 : decode cX7_goStep 13 = .ok (.invokevirtual 175, 3) := by decide +kernel
theorem dX7_goStep_16 : decode cX7_goStep 16 = .ok (.aload_n 0, 1) := by decide +kernel
theorem dX7_goStep_17 : decode cX7_goStep 17 = .ok (.getfield 7, 3) := by decide +kernel
theorem dX7_goStep_20 : decode cX7_goStep 20 = .ok (.sipush 727, 3) := by decide +kernel
theorem dX7_goStep_23 : decode cX7_goStep 23 = .ok (.iaload, 1) := by decide +kernel
theorem dX7_goStep_24 : decode cX7_goStep 24 = .ok (.ifCond .ge 24, 3) := by decide +kernel
theorem dX7_goStep_27 : decode cX7_goStep 27 = .ok (.aload_n 0, 1) := by decide +kernel
theorem dX7_goStep_28 : decode cX7_goStep 28 = .ok (.getfield 7, 3) := by decide +kernel
theorem dX7_goStep_31 : decode cX7_goStep 31 = .ok (.sipush 727, 3) := by decide +kernel
theorem dX7_goStep_34 : decode cX7_goStep 34 = .ok (.aload_n 0, 1) := by decide +kernel
theorem dX7_goStep_35 : decode cX7_goStep 35 = .ok (.invokevirtual 178, 3) := by decide +kernel
theorem dX7_goStep_38 : decode cX7_goStep 38 = .ok (.iastore, 1) := by decide +kernel
theorem dX7_goStep_39 : decode cX7_goStep 39 = .ok (.aload_n 0, 1) := by decide +kernel
theorem dX7_goStep_40 : decode cX7_goStep 40 = .ok (.getfield 7, 3) := by decide +kernel
theorem dX7_goStep_43 : decode cX7_goStep 43 = .ok (.sipush 728, 3) := by decide +kernel
theorem dX7_goStep_46 : decode cX7_goStep 46 = .ok (.iconst 0, 1) := by decide +kernel
theorem dX7_goStep_47 : decode cX7_goStep 47 = .ok (.iastore, 1) := by decide +kernel
theorem dX7_goStep_48 : decode cX7_goStep 48 = .ok (.aload_n 0, 1) := by decide +kernel
theorem dX7_goStep_49 : decode cX7_goStep 49 = .ok (.getfield 7, 3) := by decide +kernel
theorem dX7_goStep_52 : decode cX7_goStep 52 = .ok (.sipush 727, 3) := by decide +kernel
theorem dX7_goStep_55 : decode cX7_goStep 55 = .ok (.iaload, 1) := by decide +kernel
theorem dX7_goStep_56 : decode cX7_goStep 56 = .ok (.istore_n 1, 1) := by decide +kernel
theorem dX7_goStep_57 : decode cX7_goStep 57 = .ok (.aload_n 0, 1) := by decide +kernel
theorem dX7_goStep_58 : decode cX7_goStep 58 = .ok (.getfield 7, 3) := by decide +kernel
theorem dX7_goStep_61 : decode cX7_goStep 61 = .ok (.sipush 728, 3) := by decide +kernel
theorem dX7_goStep_64 : decode cX7_goStep 64 = .ok (.iaload, 1) := by decide +kernel
theorem dX7_goStep_65 : decode cX7_goStep 65 = .ok (.aload_n 0, 1) := by decide +kernel
theorem dX7_goStep_66 : decode cX7_goStep 66 = .ok (.getfield 7, 3) := by decide +kernel
theorem dX7_goStep_69 : decode cX7_goStep 69 = .ok (.sipush 128, 3) := by decide +kernel
theorem dX7_goStep_72 : decode cX7_goStep 72 = .ok (.iload_n 1, 1) := by decide +kernel
theorem dX7_goStep_73 : decode cX7_goStep 73 = .ok (.iadd, 1) := by decide +kernel
theorem dX7_goStep_74 : decode cX7_goStep 74 = .ok (.iaload, 1) := by decide +kernel
theorem dX7_goStep_75 : decode cX7_goStep 75 = .ok (.if_icmp .ge 39, 3) := by decide +kernel
theorem dX7_goStep_78 : decode cX7_goStep 78 = .ok (.aload_n 0, 1) := by decide +kernel
theorem dX7_goStep_79 : decode cX7_goStep 79 = .ok (.getfield 7, 3) := by decide +kernel
theorem dX7_goStep_82 : decode cX7_goStep 82 = .ok (.iload_n 1, 1) := by decide +kernel
theorem dX7_goStep_83 : decode cX7_goStep 83 = .ok (.aload_n 0, 1) := by decide +kernel
theorem dX7_goStep_84 : decode cX7_goStep 84 = .ok (.getfield 7, 3) := by decide +kernel
theorem dX7_goStep_87 : decode cX7_goStep 87 = .ok (.sipush 728, 3) := by decide +kernel
theorem dX7_goStep_90 : decode cX7_goStep 90 = .ok (.iaload, 1) := by decide +kernel
theorem dX7_goStep_91 : decode cX7_goStep 91 = .ok (.invokestatic 161, 3) := by decide +kernel
theorem dX7_goStep_94 : decode cX7_goStep 94 = .ok (.iaload, 1) := by decide +kernel
theorem dX7_goStep_95 : decode cX7_goStep 95 = .ok (.istore_n 2, 1) := by decide +kernel
theorem dX7_goStep_96 : decode cX7_goStep 96 = .ok (.aload_n 0, 1) := by decide +kernel
theorem dX7_goStep_97 : decode cX7_goStep 97 = .ok (.getfield 7, 3) := by decide +kernel
theorem dX7_goStep_100 : decode cX7_goStep 100 = .ok (.sipush 728, 3) := by decide +kernel
theorem dX7_goStep_103 : decode cX7_goStep 103 = .ok (.dup2, 1) := by decide +kernel
theorem dX7_goStep_104 : decode cX7_goStep 104 = .ok (.iaload, 1) := by decide +kernel
theorem dX7_goStep_105 : decode cX7_goStep 105 = .ok (.iconst 1, 1) := by decide +kernel
theorem dX7_goStep_106 : decode cX7_goStep 106 = .ok (.iadd, 1) := by decide +kernel
theorem dX7_goStep_107 : decode cX7_goStep 107 = .ok (.iastore, 1) := by decide +kernel
theorem dX7_goStep_108 : decode cX7_goStep 108 = .ok (.aload_n 0, 1) := by decide +kernel
theorem dX7_goStep_109 : decode cX7_goStep 109 = .ok (.iload_n 2, 1) := by decide +kernel
theorem dX7_goStep_110 : decode cX7_goStep 110 = .ok (.iconst 1, 1) := by decide +kernel
theorem dX7_goStep_111 : decode cX7_goStep 111 = .ok (.invokevirtual 142, 3) := by decide +kernel
theorem dX7_goStep_114 : decode cX7_goStep 114 = .ok (.aload_n 0, 1) := by decide +kernel
theorem dX7_goStep_115 : decode cX7_goStep 115 = .ok (.getfield 7, 3) := by decide +kernel
theorem dX7_goStep_118 : decode cX7_goStep 118 = .ok (.sipush 728, 3) := by decide +kernel
theorem dX7_goStep_121 : decode cX7_goStep 121 = .ok (.iaload, 1) := by decide +kernel
theorem dX7_goStep_122 : decode cX7_goStep 122 = .ok (.aload_n 0, 1) := by decide +kernel
theorem dX7_goStep_123 : decode cX7_goStep 123 = .ok (.getfield 7, 3) := by decide +kernel
theorem dX7_goStep_126 : decode cX7_goStep 126 = .ok (.sipush 128, 3) := by decide +kernel
theorem dX7_goStep_129 : decode cX7_goStep 129 = .ok (.iload_n 1, 1) := by decide +kernel
theorem dX7_goStep_130 : decode cX7_goStep 130 = .ok (.iadd, 1) := by decide +kernel
theorem dX7_goStep_131 : decode cX7_goStep 131 = .ok (.iaload, 1) := by decide +kernel
theorem dX7_goStep_132 : decode cX7_goStep 132 = .ok (.if_icmp .lt 27, 3) := by decide +kernel
theorem dX7_goStep_135 : decode cX7_goStep 135 = .ok (.aload_n 0, 1) := by decide +kernel
theorem dX7_goStep_136 : decode cX7_goStep 136 = .ok (.iload_n 1, 1) := by decide +kernel
theorem dX7_goStep_137 : decode cX7_goStep 137 = .ok (.iconst 3, 1) := by decide +kernel
theorem dX7_goStep_138 : decode cX7_goStep 138 = .ok (.invokevirtual 139, 3) := by decide +kernel
theorem dX7_goStep_141 : decode cX7_goStep 141 = .ok (.aload_n 0, 1) := by decide +kernel
theorem dX7_goStep_142 : decode cX7_goStep 142 = .ok (.getfield 7, 3) := by decide +kernel
theorem dX7_goStep_145 : decode cX7_goStep 145 = .ok (.sipush 727, 3) := by decide +kernel
theorem dX7_goStep_148 : decode cX7_goStep 148 = .ok (.iconst (-1), 1) := by decide +kernel
theorem dX7_goStep_149 : decode cX7_goStep 149 = .ok (.iastore, 1) := by decide +kernel
theorem dX7_goStep_150 : decode cX7_goStep 150 = .ok (.aload_n 0, 1) := by decide +kernel
theorem dX7_goStep_151 : decode cX7_goStep 151 = .ok (.getfield 7, 3) := by decide +kernel
theorem dX7_goStep_154 : decode cX7_goStep 154 = .ok (.sipush 728, 3) := by decide +kernel
theorem dX7_goStep_157 : decode cX7_goStep 157 = .ok (.iconst 0, 1) := by decide +kernel
theorem dX7_goStep_158 : decode cX7_goStep 158 = .ok (.iastore, 1) := by decide +kernel
theorem dX7_goStep_159 : decode cX7_goStep 159 = .ok (.aload_n 0, 1) := by decide +kernel
theorem dX7_goStep_160 : decode cX7_goStep 160 = .ok (.iconst 2, 1) := by decide +kernel
theorem dX7_goStep_161 : decode cX7_goStep 161 = .ok (.invokevirtual 122, 3) := by decide +kernel
theorem dX7_goStep_164 : decode cX7_goStep 164 = .ok (.ifCond .le 4, 3) := by decide +kernel
theorem dX7_goStep_167 : decode cX7_goStep 167 = .ok (.return_, 1) := by decide +kernel
theorem dX7_goStep_168 : decode cX7_goStep 168 = .ok (.aload_n 0, 1) := by decide +kernel
theorem dX7_goStep_169 : decode cX7_goStep 169 = .ok (.getfield 7, 3) := by decide +kernel
theorem dX7_goStep_172 : decode cX7_goStep 172 = .ok (.sipush 735, 3) := by decide +kernel
theorem dX7_goStep_175 : decode cX7_goStep 175 = .ok (.iaload, 1) := by decide +kernel
theorem dX7_goStep_176 : decode cX7_goStep 176 = .ok (.iconst 1, 1) := by decide +kernel
theorem dX7_goStep_177 : decode cX7_goStep 177 = .ok (.if_icmp .ne 7, 3) := by decide +kernel
theorem dX7_goStep_180 : decode cX7_goStep 180 = .ok (.aload_n 0, 1) := by decide +kernel
theorem dX7_goStep_181 : decode cX7_goStep 181 = .ok (.invokevirtual 149, 3) := by decide +kernel
theorem dX7_goStep_184 : decode cX7_goStep 184 = .ok (.aload_n 0, 1) := by decide +kernel
theorem dX7_goStep_185 : decode cX7_goStep 185 = .ok (.iconst 2, 1) := by decide +kernel
theorem dX7_goStep_186 : decode cX7_goStep 186 = .ok (.invokevirtual 122, 3) := by decide +kernel
theorem dX7_goStep_189 : decode cX7_goStep 189 = .ok (.ifCond .ne 7, 3) := by decide +kernel
theorem dX7_goStep_192 : decode cX7_goStep 192 = .ok (.aload_n 0, 1) := by decide +kernel
theorem dX7_goStep_193 : decode cX7_goStep 193 = .ok (.invokevirtual 152, 3) := by decide +kernel
theorem dX7_goStep_196 : decode cX7_goStep 196 = .ok (.return_, 1) := by decide +kernel
theorem dX7_goSteps_0 : decode cX7_goSteps 0 = .ok (.iconst 0, 1) := by decide +kernel
theorem dX7_goSteps_1 : decode cX7_goSteps 1 = .ok (.istore_n 2, 1) := by decide +kernel
theorem dX7_goSteps_2 : decode cX7_goSteps 2 = .ok (.iload_n 2, 1) := by decide +kernel
theorem dX7_goSteps_3 : decode cX7_goSteps 3 = .ok (.iload_n 1, 1) := by decide +kernel
theorem dX7_goSteps_4 : decode cX7_goSteps 4 = .ok (.if_icmp .ge 20, 3) := by decide +kernel
theorem dX7_goSteps_7 : decode cX7_goSteps 7 = .ok (.aload_n 0, 1) := by decide +kernel
theorem dX7_goSteps_8 : decode cX7_goSteps 8 = .ok (.invokevirtual 181, 3) := by decide +kernel
theorem dX7_goSteps_11 : decode cX7_goSteps 11 = .ok (.ifCond .eq 13, 3) := by decide +kernel
theorem dX7_goSteps_14 : decode cX7_goSteps 14 = .ok (.aload_n 0, 1) := by decide +kernel
theorem dX7_goSteps_15 : decode cX7_goSteps 15 = .ok (.invokevirtual 185, 3) := by decide +kernel
theorem dX7_goSteps_18 : decode cX7_goSteps 18 = .ok (.iinc 2 1, 3) := by decide +kernel
theorem dX7_goSteps_21 : decode cX7_goSteps 21 = .ok (.goto (-19), 3) := by decide +kernel
theorem dX7_goSteps_24 : decode cX7_goSteps 24 = .ok (.iload_n 2, 1) := by decide +kernel
theorem dX7_goSteps_25 : decode cX7_goSteps 25 = .ok (.ireturn, 1) := by decide +kernel
theorem dX7_force_0 : decode cX7_force 0 = .ok (.aload_n 0, 1) := by decide +kernel
theorem dX7_force_1 : decode cX7_force 1 = .ok (.getfield 7, 3) := by decide +kernel
theorem dX7_force_4 : decode cX7_force 4 = .ok (.sipush 731, 3) := by decide +kernel
theorem dX7_force_7 : decode cX7_force 7 = .ok (.dup2, 1) := by decide +kernel
theorem dX7_force_8 : decode cX7_force 8 = .ok (.iaload, 1) := by decide +kernel
theorem dX7_force_9 : decode cX7_force 9 = .ok (.aload_n 0, 1) := by decide +kernel
theorem dX7_force_10 : decode cX7_force 10 = .ok (.ldc 188, 2) := by decide +kernel
theorem dX7_force_12 : decode cX7_force 12 = .ok (.invokevirtual 189, 3) := by decide +kernel
theorem dX7_force_15 : decode cX7_force 15 = .ok (.iadd, 1) := by decide +kernel
theorem dX7_force_16 : decode cX7_force 16 = .ok (.iastore, 1) := by decide +kernel
theorem dX7_force_17 : decode cX7_force 17 = .ok (.return_, 1) := by decide +kernel
theorem dX7_isPageFree_0 : decode cX7_isPageFree 0 = .ok (.aload_n 0, 1) := by decide +kernel
theorem dX7_isPageFree_1 : decode cX7_isPageFree 1 = .ok (.getfield 7, 3) := by decide +kernel
theorem dX7_isPageFree_4 : decode cX7_isPageFree 4 = .ok (.sipush 707, 3) := by decide +kernel
theorem dX7_isPageFree_7 : decode cX7_isPageFree 7 = .ok (.iload_n 1, 1) := by decide +kernel
theorem dX7_isPageFree_8 : decode cX7_isPageFree 8 = .ok (.iadd, 1) := by decide +kernel
theorem dX7_isPageFree_9 : decode cX7_isPageFree 9 = .ok (.iaload, 1) := by decide +kernel
theorem dX7_isPageFree_10 : decode cX7_isPageFree 10 = .ok (.istore_n 2, 1) := by decide +kernel
theorem dX7_isPageFree_11 : decode cX7_isPageFree 11 = .ok (.bipush 16, 2) := by decide +kernel
theorem dX7_isPageFree_13 : decode cX7_isPageFree 13 = .ok (.iload_n 1, 1) := by decide +kernel
theorem dX7_isPageFree_14 : decode cX7_isPageFree 14 = .ok (.imul, 1) := by decide +kernel
theorem dX7_isPageFree_15 : decode cX7_isPageFree 15 = .ok (.istore_n 3, 1) := by decide +kernel
theorem dX7_isPageFree_16 : decode cX7_isPageFree 16 = .ok (.iload_n 3, 1) := by decide +kernel
theorem dX7_isPageFree_17 : decode cX7_isPageFree 17 = .ok (.bipush 16, 2) := by decide +kernel
theorem dX7_isPageFree_19 : decode cX7_isPageFree 19 = .ok (.iload_n 1, 1) := by decide +kernel
theorem dX7_isPageFree_20 : decode cX7_isPageFree 20 = .ok (.iconst 1, 1) := by decide +kernel
theorem dX7_isPageFree_21 : decode cX7_isPageFree 21 = .ok (.iadd, 1) := by decide +kernel
theorem dX7_isPageFree_22 : decode cX7_isPageFree 22 = .ok (.imul, 1) := by decide +kernel
theorem dX7_isPageFree_23 : decode cX7_isPageFree 23 = .ok (.if_icmp .ge 20, 3) := by decide +kernel
theorem dX7_isPageFree_26 : decode cX7_isPageFree 26 = .ok (.aload_n 0, 1) := by decide +kernel
theorem dX7_isPageFree_27 : decode cX7_isPageFree 27 = .ok (.iload_n 3, 1) := by decide +kernel
theorem dX7_isPageFree_28 : decode cX7_isPageFree 28 = .ok (.invokevirtual 106, 3) := by decide +kernel
theorem dX7_isPageFree_31 : decode cX7_isPageFree 31 = .ok (.ifCond .eq 5, 3) := by decide +kernel
theorem dX7_isPageFree_34 : decode cX7_isPageFree 34 = .ok (.iconst 0, 1) := by decide +kernel
theorem dX7_isPageFree_35 : decode cX7_isPageFree 35 = .ok (.ireturn, 1) := by decide +kernel
theorem dX7_isPageFree_36 : decode cX7_isPageFree 36 = .ok (.iload_n 3, 1) := by decide +kernel
theorem dX7_isPageFree_37 : decode cX7_isPageFree 37 = .ok (.iload_n 2, 1) := by decide +kernel
theorem dX7_isPageFree_38 : decode cX7_isPageFree 38 = .ok (.iadd, 1) := by decide +kernel
theorem dX7_isPageFree_39 : decode cX7_isPageFree 39 = .ok (.istore_n 3, 1) := by decide +kernel
theorem dX7_isPageFree_40 : decode cX7_isPageFree 40 = .ok (.goto (-24), 3) := by decide +kernel
theorem dX7_isPageFree_43 : decode cX7_isPageFree 43 = .ok (.iconst 1, 1) := by decide +kernel
theorem dX7_isPageFree_44 : decode cX7_isPageFree 44 = .ok (.ireturn, 1) := by decide +kernel
theorem dX7_giveUp_0 : decode cX7_giveUp 0 = .ok (.aload_n 0, 1) := by decide +kernel
theorem dX7_giveUp_1 : decode cX7_giveUp 1 = .ok (.getfield 7, 3) := by decide +kernel
theorem dX7_giveUp_4 : decode cX7_giveUp 4 = .ok (.sipush 707, 3) := by decide +kernel
theorem dX7_giveUp_7 : decode cX7_giveUp 7 = .ok (.iload_n 1, 1) := by decide +kernel
theorem dX7_giveUp_8 : decode cX7_giveUp 8 = .ok (.iadd, 1) := by decide +kernel
theorem dX7_giveUp_9 : decode cX7_giveUp 9 = .ok (.iaload, 1) := by decide +kernel
theorem dX7_giveUp_10 : decode cX7_giveUp 10 = .ok (.istore_n 2, 1) := by decide +kernel
theorem dX7_giveUp_11 : decode cX7_giveUp 11 = .ok (.bipush 16, 2) := by decide +kernel
theorem dX7_giveUp_13 : decode cX7_giveUp 13 = .ok (.iload_n 1, 1) := by decide +kernel
theorem dX7_giveUp_14 : decode cX7_giveUp 14 = .ok (.imul, 1) := by decide +kernel
theorem dX7_giveUp_15 : decode cX7_giveUp 15 = .ok (.istore_n 3, 1) := by decide +kernel
theorem dX7_giveUp_16 : decode cX7_giveUp 16 = .ok (.iload_n 3, 1) := by decide +kernel
theorem dX7_giveUp_17 : decode cX7_giveUp 17 = .ok (.bipush 16, 2) := by decide +kernel
theorem dX7_giveUp_19 : decode cX7_giveUp 19 = .ok (.iload_n 1, 1) := by decide +kernel
theorem dX7_giveUp_20 : decode cX7_giveUp 20 = .ok (.iconst 1, 1) := by decide +kernel
theorem dX7_giveUp_21 : decode cX7_giveUp 21 = .ok (.iadd, 1) := by decide +kernel
theorem dX7_giveUp_22 : decode cX7_giveUp 22 = .ok (.imul, 1) := by decide +kernel
theorem dX7_giveUp_23 : decode cX7_giveUp 23 = .ok (.if_icmp .ge 19, 3) := by decide +kernel
theorem dX7_giveUp_26 : decode cX7_giveUp 26 = .ok (.aload_n 0, 1) := by decide +kernel
theorem dX7_giveUp_27 : decode cX7_giveUp 27 = .ok (.iload_n 2, 1) := by decide +kernel
theorem dX7_giveUp_28 : decode cX7_giveUp 28 = .ok (.invokestatic 125, 3) := by decide +kernel
theorem dX7_giveUp_31 : decode cX7_giveUp 31 = .ok (.iload_n 3, 1) := by decide +kernel
theorem dX7_giveUp_32 : decode cX7_giveUp 32 = .ok (.invokevirtual 128, 3) := by decide +kernel
theorem dX7_giveUp_35 : decode cX7_giveUp 35 = .ok (.iload_n 3, 1) := by decide +kernel
theorem dX7_giveUp_36 : decode cX7_giveUp 36 = .ok (.iload_n 2, 1) := by decide +kernel
theorem dX7_giveUp_37 : decode cX7_giveUp 37 = .ok (.iadd, 1) := by decide +kernel
theorem dX7_giveUp_38 : decode cX7_giveUp 38 = .ok (.istore_n 3, 1) := by decide +kernel
theorem dX7_giveUp_39 : decode cX7_giveUp 39 = .ok (.goto (-23), 3) := by decide +kernel
theorem dX7_giveUp_42 : decode cX7_giveUp 42 = .ok (.return_, 1) := by decide +kernel
theorem dX7_takePage_0 : decode cX7_takePage 0 = .ok (.aload_n 0, 1) := by decide +kernel
theorem dX7_takePage_1 : decode cX7_takePage 1 = .ok (.getfield 7, 3) := by decide +kernel
theorem dX7_takePage_4 : decode cX7_takePage 4 = .ok (.sipush 707, 3) := by decide +kernel
theorem dX7_takePage_7 : decode cX7_takePage 7 = .ok (.iload_n 1, 1) := by decide +kernel
theorem dX7_takePage_8 : decode cX7_takePage 8 = .ok (.iadd, 1) := by decide +kernel
theorem dX7_takePage_9 : decode cX7_takePage 9 = .ok (.iload_n 2, 1) := by decide +kernel
theorem dX7_takePage_10 : decode cX7_takePage 10 = .ok (.iastore, 1) := by decide +kernel
theorem dX7_takePage_11 : decode cX7_takePage 11 = .ok (.iload_n 2, 1) := by decide +kernel
theorem dX7_takePage_12 : decode cX7_takePage 12 = .ok (.invokestatic 125, 3) := by decide +kernel
theorem dX7_takePage_15 : decode cX7_takePage 15 = .ok (.istore_n 3, 1) := by decide +kernel
theorem dX7_takePage_16 : decode cX7_takePage 16 = .ok (.bipush 16, 2) := by decide +kernel
theorem dX7_takePage_18 : decode cX7_takePage 18 = .ok (.iload_n 1, 1) := by decide +kernel
theorem dX7_takePage_19 : decode cX7_takePage 19 = .ok (.imul, 1) := by decide +kernel
theorem dX7_takePage_20 : decode cX7_takePage 20 = .ok (.istore 4, 2) := by decide +kernel
theorem dX7_takePage_22 : decode cX7_takePage 22 = .ok (.iload 4, 2) := by decide +kernel
theorem dX7_takePage_24 : decode cX7_takePage 24 = .ok (.bipush 16, 2) := by decide +kernel
theorem dX7_takePage_26 : decode cX7_takePage 26 = .ok (.iload_n 1, 1) := by decide +kernel
theorem dX7_takePage_27 : decode cX7_takePage 27 = .ok (.iconst 1, 1) := by decide +kernel
theorem dX7_takePage_28 : decode cX7_takePage 28 = .ok (.iadd, 1) := by decide +kernel
theorem dX7_takePage_29 : decode cX7_takePage 29 = .ok (.imul, 1) := by decide +kernel
theorem dX7_takePage_30 : decode cX7_takePage 30 = .ok (.if_icmp .ge 47, 3) := by decide +kernel
theorem dX7_takePage_33 : decode cX7_takePage 33 = .ok (.aload_n 0, 1) := by decide +kernel
theorem dX7_takePage_34 : decode cX7_takePage 34 = .ok (.getfield 7, 3) := by decide +kernel
theorem dX7_takePage_37 : decode cX7_takePage 37 = .ok (.iconst 0, 1) := by decide +kernel
theorem dX7_takePage_38 : decode cX7_takePage 38 = .ok (.iload 4, 2) := by decide +kernel
theorem dX7_takePage_40 : decode cX7_takePage 40 = .ok (.iadd, 1) := by decide +kernel
theorem dX7_takePage_41 : decode cX7_takePage 41 = .ok (.iconst 0, 1) := by decide +kernel
theorem dX7_takePage_42 : decode cX7_takePage 42 = .ok (.iastore, 1) := by decide +kernel
theorem dX7_takePage_43 : decode cX7_takePage 43 = .ok (.aload_n 0, 1) := by decide +kernel
theorem dX7_takePage_44 : decode cX7_takePage 44 = .ok (.getfield 7, 3) := by decide +kernel
theorem dX7_takePage_47 : decode cX7_takePage 47 = .ok (.sipush 128, 3) := by decide +kernel
theorem dX7_takePage_50 : decode cX7_takePage 50 = .ok (.iload 4, 2) := by decide +kernel
theorem dX7_takePage_52 : decode cX7_takePage 52 = .ok (.iadd, 1) := by decide +kernel
theorem dX7_takePage_53 : decode cX7_takePage 53 = .ok (.iconst 0, 1) := by decide +kernel
theorem dX7_takePage_54 : decode cX7_takePage 54 = .ok (.iastore, 1) := by decide +kernel
theorem dX7_takePage_55 : decode cX7_takePage 55 = .ok (.aload_n 0, 1) := by decide +kernel
theorem dX7_takePage_56 : decode cX7_takePage 56 = .ok (.iload_n 3, 1) := by decide +kernel
theorem dX7_takePage_57 : decode cX7_takePage 57 = .ok (.aload_n 0, 1) := by decide +kernel
theorem dX7_takePage_58 : decode cX7_takePage 58 = .ok (.iload_n 3, 1) := by decide +kernel
theorem dX7_takePage_59 : decode cX7_takePage 59 = .ok (.iconst 1, 1) := by decide +kernel
theorem dX7_takePage_60 : decode cX7_takePage 60 = .ok (.invokevirtual 132, 3) := by decide +kernel
theorem dX7_takePage_63 : decode cX7_takePage 63 = .ok (.iload 4, 2) := by decide +kernel
theorem dX7_takePage_65 : decode cX7_takePage 65 = .ok (.invokevirtual 135, 3) := by decide +kernel
theorem dX7_takePage_68 : decode cX7_takePage 68 = .ok (.iload 4, 2) := by decide +kernel
theorem dX7_takePage_70 : decode cX7_takePage 70 = .ok (.iload_n 2, 1) := by decide +kernel
theorem dX7_takePage_71 : decode cX7_takePage 71 = .ok (.iadd, 1) := by decide +kernel
theorem dX7_takePage_72 : decode cX7_takePage 72 = .ok (.istore 4, 2) := by decide +kernel
theorem dX7_takePage_74 : decode cX7_takePage 74 = .ok (.goto (-52), 3) := by decide +kernel
theorem dX7_takePage_77 : decode cX7_takePage 77 = .ok (.return_, 1) := by decide +kernel
theorem dX7_look_0 : decode cX7_look 0 = .ok (.aload_n 0, 1) := by decide +kernel
theorem dX7_look_1 : decode cX7_look 1 = .ok (.iload_n 1, 1) := by decide +kernel
theorem dX7_look_2 : decode cX7_look 2 = .ok (.invokestatic 125, 3) := by decide +kernel
theorem dX7_look_5 : decode cX7_look 5 = .ok (.iconst 0, 1) := by decide +kernel
theorem dX7_look_6 : decode cX7_look 6 = .ok (.invokevirtual 119, 3) := by decide +kernel
theorem dX7_look_9 : decode cX7_look 9 = .ok (.ifCond .le 5, 3) := by decide +kernel
theorem dX7_look_12 : decode cX7_look 12 = .ok (.iconst 1, 1) := by decide +kernel
theorem dX7_look_13 : decode cX7_look 13 = .ok (.ireturn, 1) := by decide +kernel
theorem dX7_look_14 : decode cX7_look 14 = .ok (.iconst 0, 1) := by decide +kernel
theorem dX7_look_15 : decode cX7_look 15 = .ok (.istore_n 2, 1) := by decide +kernel
theorem dX7_look_16 : decode cX7_look 16 = .ok (.iload_n 2, 1) := by decide +kernel
theorem dX7_look_17 : decode cX7_look 17 = .ok (.aload_n 0, 1) := by decide +kernel
theorem dX7_look_18 : decode cX7_look 18 = .ok (.getfield 7, 3) := by decide +kernel
theorem dX7_look_21 : decode cX7_look 21 = .ok (.sipush 725, 3) := by decide +kernel
theorem dX7_look_24 : decode cX7_look 24 = .ok (.iaload, 1) := by decide +kernel
theorem dX7_look_25 : decode cX7_look 25 = .ok (.if_icmp .ge 33, 3) := by decide +kernel
theorem dX7_look_28 : decode cX7_look 28 = .ok (.aload_n 0, 1) := by decide +kernel
theorem dX7_look_29 : decode cX7_look 29 = .ok (.getfield 7, 3) := by decide +kernel
theorem dX7_look_32 : decode cX7_look 32 = .ok (.sipush 707, 3) := by decide +kernel
theorem dX7_look_35 : decode cX7_look 35 = .ok (.iload_n 2, 1) := by decide +kernel
theorem dX7_look_36 : decode cX7_look 36 = .ok (.iadd, 1) := by decide +kernel
theorem dX7_look_37 : decode cX7_look 37 = .ok (.iaload, 1) := by decide +kernel
theorem dX7_look_38 : decode cX7_look 38 = .ok (.ifCond .eq 6, 3) := by decide +kernel
theorem dX7_look_41 : decode cX7_look 41 = .ok (.goto 11, 3) := by decide +kernel
theorem dX7_look_44 : decode cX7_look 44 = .ok (.aload_n 0, 1) := by decide +kernel
theorem dX7_look_45 : decode cX7_look 45 = .ok (.iload_n 2, 1) := by decide +kernel
theorem dX7_look_46 : decode cX7_look 46 = .ok (.iload_n 1, 1) := by decide +kernel
theorem dX7_look_47 : decode cX7_look 47 = .ok (.invokevirtual 192, 3) := by decide +kernel
theorem dX7_look_50 : decode cX7_look 50 = .ok (.iconst 1, 1) := by decide +kernel
theorem dX7_look_51 : decode cX7_look 51 = .ok (.ireturn, 1) := by decide +kernel
