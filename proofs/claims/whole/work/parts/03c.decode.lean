theorem dX3_clear_22 : decode cX3_clear 22 = .ok (.iload_n 1, 1) := by decide +kernel
theorem dX3_clear_23 : decode cX3_clear 23 = .ok (.iload_n 1, 1) := by decide +kernel
theorem dX3_clear_24 : decode cX3_clear 24 = .ok (.iastore, 1) := by decide +kernel
theorem dX3_clear_25 : decode cX3_clear 25 = .ok (.iinc 1 1, 3) := by decide +kernel
theorem dX3_clear_28 : decode cX3_clear 28 = .ok (.goto (-26), 3) := by decide +kernel
theorem dX3_clear_31 : decode cX3_clear 31 = .ok (.aload_n 0, 1) := by decide +kernel
theorem dX3_clear_32 : decode cX3_clear 32 = .ok (.getfield 18, 3) := by decide +kernel
theorem dX3_clear_35 : decode cX3_clear 35 = .ok (.bipush 12, 2) := by decide +kernel
theorem dX3_clear_37 : decode cX3_clear 37 = .ok (.invokestatic 27, 3) := by decide +kernel
theorem dX3_clear_40 : decode cX3_clear 40 = .ok (.aload_n 0, 1) := by decide +kernel
theorem dX3_clear_41 : decode cX3_clear 41 = .ok (.getfield 21, 3) := by decide +kernel
theorem dX3_clear_44 : decode cX3_clear 44 = .ok (.iconst 0, 1) := by decide +kernel
theorem dX3_clear_45 : decode cX3_clear 45 = .ok (.invokestatic 27, 3) := by decide +kernel
theorem dX3_clear_48 : decode cX3_clear 48 = .ok (.aload_n 0, 1) := by decide +kernel
theorem dX3_clear_49 : decode cX3_clear 49 = .ok (.getfield 21, 3) := by decide +kernel
theorem dX3_clear_52 : decode cX3_clear 52 = .ok (.bipush 12, 2) := by decide +kernel
theorem dX3_clear_54 : decode cX3_clear 54 = .ok (.bipush 64, 2) := by decide +kernel
theorem dX3_clear_56 : decode cX3_clear 56 = .ok (.iastore, 1) := by decide +kernel
theorem dX3_clear_57 : decode cX3_clear 57 = .ok (.return_, 1) := by decide +kernel
theorem dX3_become_0 : decode cX3_become 0 = .ok (.aload_n 1, 1) := by decide +kernel
theorem dX3_become_1 : decode cX3_become 1 = .ok (.getfield 11, 3) := by decide +kernel
theorem dX3_become_4 : decode cX3_become 4 = .ok (.iconst 0, 1) := by decide +kernel
theorem dX3_become_5 : decode cX3_become 5 = .ok (.aload_n 0, 1) := by decide +kernel
theorem dX3_become_6 : decode cX3_become 6 = .ok (.getfield 11, 3) := by decide +kernel
theorem dX3_become_9 : decode cX3_become 9 = .ok (.iconst 0, 1) := by decide +kernel
theorem dX3_become_10 : decode cX3_become 10 = .ok (.aload_n 0, 1) := by decide +kernel
theorem dX3_become_11 : decode cX3_become 11 = .ok (.getfield 11, 3) := by decide +kernel
theorem dX3_become_14 : decode cX3_become 14 = .ok (.arraylength, 1) := by decide +kernel
theorem dX3_become_15 : decode cX3_become 15 = .ok (.invokestatic 33, 3) := by decide +kernel
theorem dX3_become_18 : decode cX3_become 18 = .ok (.aload_n 1, 1) := by decide +kernel
theorem dX3_become_19 : decode cX3_become 19 = .ok (.getfield 15, 3) := by decide +kernel
theorem dX3_become_22 : decode cX3_become 22 = .ok (.iconst 0, 1) := by decide +kernel
theorem dX3_become_23 : decode cX3_become 23 = .ok (.aload_n 0, 1) := by decide +kernel
theorem dX3_become_24 : decode cX3_become 24 = .ok (.getfield 15, 3) := by decide +kernel
theorem dX3_become_27 : decode cX3_become 27 = .ok (.iconst 0, 1) := by decide +kernel
theorem dX3_become_28 : decode cX3_become 28 = .ok (.aload_n 0, 1) := by decide +kernel
theorem dX3_become_29 : decode cX3_become 29 = .ok (.getfield 15, 3) := by decide +kernel
theorem dX3_become_32 : decode cX3_become 32 = .ok (.arraylength, 1) := by decide +kernel
theorem dX3_become_33 : decode cX3_become 33 = .ok (.invokestatic 33, 3) := by decide +kernel
theorem dX3_become_36 : decode cX3_become 36 = .ok (.aload_n 1, 1) := by decide +kernel
theorem dX3_become_37 : decode cX3_become 37 = .ok (.getfield 18, 3) := by decide +kernel
theorem dX3_become_40 : decode cX3_become 40 = .ok (.iconst 0, 1) := by decide +kernel
theorem dX3_become_41 : decode cX3_become 41 = .ok (.aload_n 0, 1) := by decide +kernel
theorem dX3_become_42 : decode cX3_become 42 = .ok (.getfield 18, 3) := by decide +kernel
theorem dX3_become_45 : decode cX3_become 45 = .ok (.iconst 0, 1) := by decide +kernel
theorem dX3_become_46 : decode cX3_become 46 = .ok (.aload_n 0, 1) := by decide +kernel
theorem dX3_become_47 : decode cX3_become 47 = .ok (.getfield 18, 3) := by decide +kernel
theorem dX3_become_50 : decode cX3_become 50 = .ok (.arraylength, 1) := by decide +kernel
theorem dX3_become_51 : decode cX3_become 51 = .ok (.invokestatic 33, 3) := by decide +kernel
theorem dX3_become_54 : decode cX3_become 54 = .ok (.aload_n 1, 1) := by decide +kernel
theorem dX3_become_55 : decode cX3_become 55 = .ok (.getfield 21, 3) := by decide +kernel
theorem dX3_become_58 : decode cX3_become 58 = .ok (.iconst 0, 1) := by decide +kernel
theorem dX3_become_59 : decode cX3_become 59 = .ok (.aload_n 0, 1) := by decide +kernel
theorem dX3_become_60 : decode cX3_become 60 = .ok (.getfield 21, 3) := by decide +kernel
theorem dX3_become_63 : decode cX3_become 63 = .ok (.iconst 0, 1) := by decide +kernel
theorem dX3_become_64 : decode cX3_become 64 = .ok (.aload_n 0, 1) := by decide +kernel
theorem dX3_become_65 : decode cX3_become 65 = .ok (.getfield 21, 3) := by decide +kernel
theorem dX3_become_68 : decode cX3_become 68 = .ok (.arraylength, 1) := by decide +kernel
theorem dX3_become_69 : decode cX3_become 69 = .ok (.invokestatic 33, 3) := by decide +kernel
theorem dX3_become_72 : decode cX3_become 72 = .ok (.return_, 1) := by decide +kernel
theorem dX3_colourAt_0 : decode cX3_colourAt 0 = .ok (.iload_n 1, 1) := by decide +kernel
theorem dX3_colourAt_1 : decode cX3_colourAt 1 = .ok (.ifCond .lt 29, 3) := by decide +kernel
theorem dX3_colourAt_4 : decode cX3_colourAt 4 = .ok (.iload_n 1, 1) := by decide +kernel
theorem dX3_colourAt_5 : decode cX3_colourAt 5 = .ok (.sipush 128, 3) := by decide +kernel
theorem dX3_colourAt_8 : decode cX3_colourAt 8 = .ok (.if_icmp .ge 22, 3) := by decide +kernel
theorem dX3_colourAt_11 : decode cX3_colourAt 11 = .ok (.iload_n 1, 1) := by decide +kernel
theorem dX3_colourAt_12 : decode cX3_colourAt 12 = .ok (.iconst 2, 1) := by decide +kernel
theorem dX3_colourAt_13 : decode cX3_colourAt 13 = .ok (.irem, 1) := by decide +kernel
theorem dX3_colourAt_14 : decode cX3_colourAt 14 = .ok (.ifCond .ne 16, 3) := by decide +kernel
theorem dX3_colourAt_17 : decode cX3_colourAt 17 = .ok (.aload_n 0, 1) := by decide +kernel
theorem dX3_colourAt_18 : decode cX3_colourAt 18 = .ok (.getfield 18, 3) := by decide +kernel
theorem dX3_colourAt_21 : decode cX3_colourAt 21 = .ok (.iload_n 1, 1) := by decide +kernel
theorem dX3_colourAt_22 : decode cX3_colourAt 22 = .ok (.iconst 2, 1) := by decide +kernel
theorem dX3_colourAt_23 : decode cX3_colourAt 23 = .ok (.idiv, 1) := by decide +kernel
theorem dX3_colourAt_24 : decode cX3_colourAt 24 = .ok (.iaload, 1) := by decide +kernel
theorem dX3_colourAt_25 : decode cX3_colourAt 25 = .ok (.bipush 12, 2) := by decide +kernel
theorem dX3_colourAt_27 : decode cX3_colourAt 27 = .ok (.if_icmp .ne 5, 3) := by decide +kernel
theorem dX3_colourAt_30 : decode cX3_colourAt 30 = .ok (.iconst (-1), 1) := by decide +kernel
theorem dX3_colourAt_31 : decode cX3_colourAt 31 = .ok (.ireturn, 1) := by decide +kernel
theorem dX3_colourAt_32 : decode cX3_colourAt 32 = .ok (.aload_n 0, 1) := by decide +kernel
theorem dX3_colourAt_33 : decode cX3_colourAt 33 = .ok (.getfield 18, 3) := by decide +kernel
theorem dX3_colourAt_36 : decode cX3_colourAt 36 = .ok (.iload_n 1, 1) := by decide +kernel
theorem dX3_colourAt_37 : decode cX3_colourAt 37 = .ok (.iconst 2, 1) := by decide +kernel
theorem dX3_colourAt_38 : decode cX3_colourAt 38 = .ok (.idiv, 1) := by decide +kernel
theorem dX3_colourAt_39 : decode cX3_colourAt 39 = .ok (.iaload, 1) := by decide +kernel
theorem dX3_colourAt_40 : decode cX3_colourAt 40 = .ok (.iconst 4, 1) := by decide +kernel
theorem dX3_colourAt_41 : decode cX3_colourAt 41 = .ok (.irem, 1) := by decide +kernel
theorem dX3_colourAt_42 : decode cX3_colourAt 42 = .ok (.ireturn, 1) := by decide +kernel
theorem dX3_count_0 : decode cX3_count 0 = .ok (.aload_n 0, 1) := by decide +kernel
theorem dX3_count_1 : decode cX3_count 1 = .ok (.getfield 21, 3) := by decide +kernel
theorem dX3_count_4 : decode cX3_count 4 = .ok (.iload_n 1, 1) := by decide +kernel
theorem dX3_count_5 : decode cX3_count 5 = .ok (.iaload, 1) := by decide +kernel
theorem dX3_count_6 : decode cX3_count 6 = .ok (.ireturn, 1) := by decide +kernel
theorem dX3_first_0 : decode cX3_first 0 = .ok (.iconst 2, 1) := by decide +kernel
theorem dX3_first_1 : decode cX3_first 1 = .ok (.aload_n 0, 1) := by decide +kernel
theorem dX3_first_2 : decode cX3_first 2 = .ok (.getfield 11, 3) := by decide +kernel
theorem dX3_first_5 : decode cX3_first 5 = .ok (.bipush 64, 2) := by decide +kernel
theorem dX3_first_7 : decode cX3_first 7 = .ok (.iload_n 1, 1) := by decide +kernel
theorem dX3_first_8 : decode cX3_first 8 = .ok (.iadd, 1) := by decide +kernel
theorem dX3_first_9 : decode cX3_first 9 = .ok (.iaload, 1) := by decide +kernel
theorem dX3_first_10 : decode cX3_first 10 = .ok (.imul, 1) := by decide +kernel
theorem dX3_first_11 : decode cX3_first 11 = .ok (.ireturn, 1) := by decide +kernel
theorem dX3_addressAt_0 : decode cX3_addressAt 0 = .ok (.iload_n 2, 1) := by decide +kernel
theorem dX3_addressAt_1 : decode cX3_addressAt 1 = .ok (.istore_n 3, 1) := by decide +kernel
theorem dX3_addressAt_2 : decode cX3_addressAt 2 = .ok (.iconst 0, 1) := by decide +kernel
theorem dX3_addressAt_3 : decode cX3_addressAt 3 = .ok (.istore 4, 2) := by decide +kernel
theorem dX3_addressAt_5 : decode cX3_addressAt 5 = .ok (.iload 4, 2) := by decide +kernel
theorem dX3_addressAt_7 : decode cX3_addressAt 7 = .ok (.iconst 3, 1) := by decide +kernel
theorem dX3_addressAt_8 : decode cX3_addressAt 8 = .ok (.if_icmp .gt 79, 3) := by decide +kernel
theorem dX3_addressAt_11 : decode cX3_addressAt 11 = .ok (.iload_n 1, 1) := by decide +kernel
theorem dX3_addressAt_12 : decode cX3_addressAt 12 = .ok (.iload 4, 2) := by decide +kernel
theorem dX3_addressAt_14 : decode cX3_addressAt 14 = .ok (.invokestatic 39, 3) := by decide +kernel
theorem dX3_addressAt_17 : decode cX3_addressAt 17 = .ok (.istore 5, 2) := by decide +kernel
theorem dX3_addressAt_19 : decode cX3_addressAt 19 = .ok (.iload_n 3, 1) := by decide +kernel
theorem dX3_addressAt_20 : decode cX3_addressAt 20 = .ok (.aload_n 0, 1) := by decide +kernel
theorem dX3_addressAt_21 : decode cX3_addressAt 21 = .ok (.getfield 21, 3) := by decide +kernel
theorem dX3_addressAt_24 : decode cX3_addressAt 24 = .ok (.iload 5, 2) := by decide +kernel
theorem dX3_addressAt_26 : decode cX3_addressAt 26 = .ok (.iaload, 1) := by decide +kernel
theorem dX3_addressAt_27 : decode cX3_addressAt 27 = .ok (.if_icmp .ge 44, 3) := by decide +kernel
theorem dX3_addressAt_30 : decode cX3_addressAt 30 = .ok (.aload_n 0, 1) := by decide +kernel
theorem dX3_addressAt_31 : decode cX3_addressAt 31 = .ok (.getfield 11, 3) := by decide +kernel
theorem dX3_addressAt_34 : decode cX3_addressAt 34 = .ok (.bipush 64, 2) := by decide +kernel
theorem dX3_addressAt_36 : decode cX3_addressAt 36 = .ok (.iload 5, 2) := by decide +kernel
theorem dX3_addressAt_38 : decode cX3_addressAt 38 = .ok (.iadd, 1) := by decide +kernel
theorem dX3_addressAt_39 : decode cX3_addressAt 39 = .ok (.iaload, 1) := by decide +kernel
theorem dX3_addressAt_40 : decode cX3_addressAt 40 = .ok (.istore 6, 2) := by decide +kernel
theorem dX3_addressAt_42 : decode cX3_addressAt 42 = .ok (.iconst 0, 1) := by decide +kernel
theorem dX3_addressAt_43 : decode cX3_addressAt 43 = .ok (.istore 7, 2) := by decide +kernel
theorem dX3_addressAt_45 : decode cX3_addressAt 45 = .ok (.iload 7, 2) := by decide +kernel
theorem dX3_addressAt_47 : decode cX3_addressAt 47 = .ok (.iload_n 3, 1) := by decide +kernel
theorem dX3_addressAt_48 : decode cX3_addressAt 48 = .ok (.if_icmp .ge 18, 3) := by decide +kernel
theorem dX3_addressAt_51 : decode cX3_addressAt 51 = .ok (.aload_n 0, 1) := by decide +kernel
theorem dX3_addressAt_52 : decode cX3_addressAt 52 = .ok (.getfield 11, 3) := by decide +kernel
theorem dX3_addressAt_55 : decode cX3_addressAt 55 = .ok (.iload 6, 2) := by decide +kernel
theorem dX3_addressAt_57 : decode cX3_addressAt 57 = .ok (.iaload, 1) := by decide +kernel
theorem dX3_addressAt_58 : decode cX3_addressAt 58 = .ok (.istore 6, 2) := by decide +kernel
theorem dX3_addressAt_60 : decode cX3_addressAt 60 = .ok (.iinc 7 1, 3) := by decide +kernel
theorem dX3_addressAt_63 : decode cX3_addressAt 63 = .ok (.goto (-18), 3) := by decide +kernel
theorem dX3_addressAt_66 : decode cX3_addressAt 66 = .ok (.iconst 2, 1) := by decide +kernel
theorem dX3_addressAt_67 : decode cX3_addressAt 67 = .ok (.iload 6, 2) := by decide +kernel
theorem dX3_addressAt_69 : decode cX3_addressAt 69 = .ok (.imul, 1) := by decide +kernel
theorem dX3_addressAt_70 : decode cX3_addressAt 70 = .ok (.ireturn, 1) := by decide +kernel
theorem dX3_addressAt_71 : decode cX3_addressAt 71 = .ok (.iload_n 3, 1) := by decide +kernel
theorem dX3_addressAt_72 : decode cX3_addressAt 72 = .ok (.aload_n 0, 1) := by decide +kernel
theorem dX3_addressAt_73 : decode cX3_addressAt 73 = .ok (.getfield 21, 3) := by decide +kernel
theorem dX3_addressAt_76 : decode cX3_addressAt 76 = .ok (.iload 5, 2) := by decide +kernel
theorem dX3_addressAt_78 : decode cX3_addressAt 78 = .ok (.iaload, 1) := by decide +kernel
theorem dX3_addressAt_79 : decode cX3_addressAt 79 = .ok (.isub, 1) := by decide +kernel
theorem dX3_addressAt_80 : decode cX3_addressAt 80 = .ok (.istore_n 3, 1) := by decide +kernel
theorem dX3_addressAt_81 : decode cX3_addressAt 81 = .ok (.iinc 4 1, 3) := by decide +kernel
theorem dX3_addressAt_84 : decode cX3_addressAt 84 = .ok (.goto (-79), 3) := by decide +kernel
theorem dX3_addressAt_87 : decode cX3_addressAt 87 = .ok (.iconst (-1), 1) := by decide +kernel
theorem dX3_addressAt_88 : decode cX3_addressAt 88 = .ok (.ireturn, 1) := by decide +kernel
theorem dX3_move_0 : decode cX3_move 0 = .ok (.iload_n 1, 1) := by decide +kernel
theorem dX3_move_1 : decode cX3_move 1 = .ok (.iconst 2, 1) := by decide +kernel
theorem dX3_move_2 : decode cX3_move 2 = .ok (.idiv, 1) := by decide +kernel
theorem dX3_move_3 : decode cX3_move 3 = .ok (.istore 4, 2) := by decide +kernel
theorem dX3_move_5 : decode cX3_move 5 = .ok (.aload_n 0, 1) := by decide +kernel
theorem dX3_move_6 : decode cX3_move 6 = .ok (.getfield 11, 3) := by decide +kernel
theorem dX3_move_9 : decode cX3_move 9 = .ok (.aload_n 0, 1) := by decide +kernel
theorem dX3_move_10 : decode cX3_move 10 = .ok (.getfield 15, 3) := by decide +kernel
theorem dX3_move_13 : decode cX3_move 13 = .ok (.iload 4, 2) := by decide +kernel
theorem dX3_move_15 : decode cX3_move 15 = .ok (.iaload, 1) := by decide +kernel
theorem dX3_move_16 : decode cX3_move 16 = .ok (.aload_n 0, 1) := by decide +kernel
theorem dX3_move_17 : decode cX3_move 17 = .ok (.getfield 11, 3) := by decide +kernel
theorem dX3_move_20 : decode cX3_move 20 = .ok (.iload 4, 2) := by decide +kernel
theorem dX3_move_22 : decode cX3_move 22 = .ok (.iaload, 1) := by decide +kernel
theorem dX3_move_23 : decode cX3_move 23 = .ok (.iastore, 1) := by decide +kernel
theorem dX3_move_24 : decode cX3_move 24 = .ok (.aload_n 0, 1) := by decide +kernel
theorem dX3_move_25 : decode cX3_move 25 = .ok (.getfield 15, 3) := by decide +kernel
theorem dX3_move_28 : decode cX3_move 28 = .ok (.aload_n 0, 1) := by decide +kernel
theorem dX3_move_29 : decode cX3_move 29 = .ok (.getfield 11, 3) := by decide +kernel
theorem dX3_move_32 : decode cX3_move 32 = .ok (.iload 4, 2) := by decide +kernel
theorem dX3_move_34 : decode cX3_move 34 = .ok (.iaload, 1) := by decide +kernel
theorem dX3_move_35 : decode cX3_move 35 = .ok (.aload_n 0, 1) := by decide +kernel
theorem dX3_move_36 : decode cX3_move 36 = .ok (.getfield 15, 3) := by decide +kernel
theorem dX3_move_39 : decode cX3_move 39 = .ok (.iload 4, 2) := by decide +kernel
theorem dX3_move_41 : decode cX3_move 41 = .ok (.iaload, 1) := by decide +kernel
theorem dX3_move_42 : decode cX3_move 42 = .ok (.iastore, 1) := by decide +kernel
theorem dX3_move_43 : decode cX3_move 43 = .ok (.aload_n 0, 1) := by decide +kernel
theorem dX3_move_44 : decode cX3_move 44 = .ok (.getfield 21, 3) := by decide +kernel
theorem dX3_move_47 : decode cX3_move 47 = .ok (.aload_n 0, 1) := by decide +kernel
theorem dX3_move_48 : decode cX3_move 48 = .ok (.getfield 18, 3) := by decide +kernel
theorem dX3_move_51 : decode cX3_move 51 = .ok (.iload 4, 2) := by decide +kernel
theorem dX3_move_53 : decode cX3_move 53 = .ok (.iaload, 1) := by decide +kernel
theorem dX3_move_54 : decode cX3_move 54 = .ok (.dup2, 1) := by decide +kernel
theorem dX3_move_55 : decode cX3_move 55 = .ok (.iaload, 1) := by decide +kernel
theorem dX3_move_56 : decode cX3_move 56 = .ok (.iconst 1, 1) := by decide +kernel
theorem dX3_move_57 : decode cX3_move 57 = .ok (.isub, 1) := by decide +kernel
theorem dX3_move_58 : decode cX3_move 58 = .ok (.iastore, 1) := by decide +kernel
theorem dX3_move_59 : decode cX3_move 59 = .ok (.bipush 64, 2) := by decide +kernel
theorem dX3_move_61 : decode cX3_move 61 = .ok (.iload_n 2, 1) := by decide +kernel
theorem dX3_move_62 : decode cX3_move 62 = .ok (.iadd, 1) := by decide +kernel
theorem dX3_move_63 : decode cX3_move 63 = .ok (.istore 5, 2) := by decide +kernel
theorem dX3_move_65 : decode cX3_move 65 = .ok (.iload_n 3, 1) := by decide +kernel
theorem dX3_move_66 : decode cX3_move 66 = .ok (.ifCond .eq 8, 3) := by decide +kernel
theorem dX3_move_69 : decode cX3_move 69 = .ok (.iload 5, 2) := by decide +kernel
theorem dX3_move_71 : decode cX3_move 71 = .ok (.goto 10, 3) := by decide +kernel
theorem dX3_move_74 : decode cX3_move 74 = .ok (.aload_n 0, 1) := by decide +kernel
theorem dX3_move_75 : decode cX3_move 75 = .ok (.getfield 15, 3) := by decide +kernel
theorem dX3_move_78 : decode cX3_move 78 = .ok (.iload 5, 2) := by decide +kernel
theorem dX3_move_80 : decode cX3_move 80 = .ok (.iaload, 1) := by decide +kernel
theorem dX3_move_81 : decode cX3_move 81 = .ok (.istore 6, 2) := by decide +kernel
theorem dX3_move_83 : decode cX3_move 83 = .ok (.aload_n 0, 1) := by decide +kernel
theorem dX3_move_84 : decode cX3_move 84 = .ok (.getfield 11, 3) := by decide +kernel
theorem dX3_move_87 : decode cX3_move 87 = .ok (.iload 6, 2) := by decide +kernel
theorem dX3_move_89 : decode cX3_move 89 = .ok (.iaload, 1) := by decide +kernel
theorem dX3_move_90 : decode cX3_move 90 = .ok (.istore 7, 2) := by decide +kernel
theorem dX3_move_92 : decode cX3_move 92 = .ok (.aload_n 0, 1) := by decide +kernel
theorem dX3_move_93 : decode cX3_move 93 = .ok (.getfield 11, 3) := by decide +kernel
theorem dX3_move_96 : decode cX3_move 96 = .ok (.iload 6, 2) := by decide +kernel
theorem dX3_move_98 : decode cX3_move 98 = .ok (.iload 4, 2) := by decide +kernel
theorem dX3_move_100 : decode cX3_move 100 = .ok (.iastore, 1) := by decide +kernel
theorem dX3_move_101 : decode cX3_move 101 = .ok (.aload_n 0, 1) := by decide +kernel
theorem dX3_move_102 : decode cX3_move 102 = .ok (.getfield 15, 3) := by decide +kernel
theorem dX3_move_105 : decode cX3_move 105 = .ok (.iload 4, 2) := by decide +kernel
theorem dX3_move_107 : decode cX3_move 107 = .ok (.iload 6, 2) := by decide +kernel
theorem dX3_move_109 : decode cX3_move 109 = .ok (.iastore, 1) := by decide +kernel
theorem dX3_move_110 : decode cX3_move 110 = .ok (.aload_n 0, 1) := by decide +kernel
theorem dX3_move_111 : decode cX3_move 111 = .ok (.getfield 11, 3) := by decide +kernel
theorem dX3_move_114 : decode cX3_move 114 = .ok (.iload 4, 2) := by decide +kernel
theorem dX3_move_116 : decode cX3_move 116 = .ok (.iload 7, 2) := by decide +kernel
theorem dX3_move_118 : decode cX3_move 118 = .ok (.iastore, 1) := by decide +kernel
theorem dX3_move_119 : decode cX3_move 119 = .ok (.aload_n 0, 1) := by decide +kernel
theorem dX3_move_120 : decode cX3_move 120 = .ok (.getfield 15, 3) := by decide +kernel
theorem dX3_move_123 : decode cX3_move 123 = .ok (.iload 7, 2) := by decide +kernel
theorem dX3_move_125 : decode cX3_move 125 = .ok (.iload 4, 2) := by decide +kernel
theorem dX3_move_127 : decode cX3_move 127 = .ok (.iastore, 1) := by decide +kernel
theorem dX3_move_128 : decode cX3_move 128 = .ok (.aload_n 0, 1) := by decide +kernel
theorem dX3_move_129 : decode cX3_move 129 = .ok (.getfield 18, 3) := by decide +kernel
theorem dX3_move_132 : decode cX3_move 132 = .ok (.iload 4, 2) := by decide +kernel
theorem dX3_move_134 : decode cX3_move 134 = .ok (.iload_n 2, 1) := by decide +kernel
theorem dX3_move_135 : decode cX3_move 135 = .ok (.iastore, 1) := by decide +kernel
theorem dX3_move_136 : decode cX3_move 136 = .ok (.aload_n 0, 1) := by decide +kernel
theorem dX3_move_137 : decode cX3_move 137 = .ok (.getfield 21, 3) := by decide +kernel
theorem dX3_move_140 : decode cX3_move 140 = .ok (.iload_n 2, 1) := by decide +kernel
theorem dX3_move_141 : decode cX3_move 141 = .ok (.dup2, 1) := by decide +kernel
theorem dX3_move_142 : decode cX3_move 142 = .ok (.iaload, 1) := by decide +kernel
theorem dX3_move_143 : decode cX3_move 143 = .ok (.iconst 1, 1) := by decide +kernel
theorem dX3_move_144 : decode cX3_move 144 = .ok (.iadd, 1) := by decide +kernel
theorem dX3_move_145 : decode cX3_move 145 = .ok (.iastore, 1) := by decide +kernel
theorem dX3_move_146 : decode cX3_move 146 = .ok (.return_, 1) := by decide +kernel
theorem dX4_init_0 : decode cX4_init 0 = .ok (.aload_n 0, 1) := by decide +kernel
theorem dX4_init_1 : decode cX4_init 1 = .ok (.invokespecial 3, 3) := by decide +kernel
theorem dX4_init_4 : decode cX4_init 4 = .ok (.aload_n 0, 1) := by decide +kernel
theorem dX4_init_5 : decode cX4_init 5 = .ok (.iconst 0, 1) := by decide +kernel
theorem dX4_init_6 : decode cX4_init 6 = .ok (.putfield 9, 3) := by decide +kernel
theorem dX4_init_9 : decode cX4_init 9 = .ok (.aload_n 0, 1) := by decide +kernel
theorem dX4_init_10 : decode cX4_init 10 = .ok (.iconst 0, 1) := by decide +kernel
theorem dX4_init_11 : decode cX4_init 11 = .ok (.putfield 15, 3) := by decide +kernel
theorem dX4_init_14 : decode cX4_init 14 = .ok (.aload_n 0, 1) := by decide +kernel
theorem dX4_init_15 : decode cX4_init 15 = .ok (.aload_n 1, 1) := by decide +kernel
theorem dX4_init_16 : decode cX4_init 16 = .ok (.putfield 19, 3) := by decide +kernel
theorem dX4_init_19 : decode cX4_init 19 = .ok (.aload_n 0, 1) := by decide +kernel
theorem dX4_init_20 : decode cX4_init 20 = .ok (.aload_n 2, 1) := by decide +kernel
theorem dX4_init_21 : decode cX4_init 21 = .ok (.putfield 23, 3) := by decide +kernel
theorem dX4_init_24 : decode cX4_init 24 = .ok (.return_, 1) := by decide +kernel
theorem dX4_prepare_0 : decode cX4_prepare 0 = .ok (.aload_n 0, 1) := by decide +kernel
theorem dX4_prepare_1 : decode cX4_prepare 1 = .ok (.aload_n 1, 1) := by decide +kernel
theorem dX4_prepare_2 : decode cX4_prepare 2 = .ok (.putfield 19, 3) := by decide +kernel
theorem dX4_prepare_5 : decode cX4_prepare 5 = .ok (.aload_n 0, 1) := by decide +kernel
theorem dX4_prepare_6 : decode cX4_prepare 6 = .ok (.aload_n 2, 1) := by decide +kernel
theorem dX4_prepare_7 : decode cX4_prepare 7 = .ok (.putfield 23, 3) := by decide +kernel
theorem dX4_prepare_10 : decode cX4_prepare 10 = .ok (.aload_n 0, 1) := by decide +kernel
theorem dX4_prepare_11 : decode cX4_prepare 11 = .ok (.iconst 0, 1) := by decide +kernel
theorem dX4_prepare_12 : decode cX4_prepare 12 = .ok (.putfield 9, 3) := by decide +kernel
theorem dX4_prepare_15 : decode cX4_prepare 15 = .ok (.aload_n 0, 1) := by decide +kernel
theorem dX4_prepare_16 : decode cX4_prepare 16 = .ok (.iconst 0, 1) := by decide +kernel
theorem dX4_prepare_17 : decode cX4_prepare 17 = .ok (.putfield 15, 3) := by decide +kernel
theorem dX4_prepare_20 : decode cX4_prepare 20 = .ok (.return_, 1) := by decide +kernel
theorem dX4_goThrough_0 : decode cX4_goThrough 0 = .ok (.iload_n 3, 1) := by decide +kernel
theorem dX4_goThrough_1 : decode cX4_goThrough 1 = .ok (.iconst 4, 1) := by decide +kernel
theorem dX4_goThrough_2 : decode cX4_goThrough 2 = .ok (.if_icmp .le 4, 3) := by decide +kernel
theorem dX4_goThrough_5 : decode cX4_goThrough 5 = .ok (.return_, 1) := by decide +kernel
theorem dX4_goThrough_6 : decode cX4_goThrough 6 = .ok (.iload_n 1, 1) := by decide +kernel
theorem dX4_goThrough_7 : decode cX4_goThrough 7 = .ok (.istore 4, 2) := by decide +kernel
theorem dX4_goThrough_9 : decode cX4_goThrough 9 = .ok (.iload 4, 2) := by decide +kernel
theorem dX4_goThrough_11 : decode cX4_goThrough 11 = .ok (.iload_n 2, 1) := by decide +kernel
theorem dX4_goThrough_12 : decode cX4_goThrough 12 = .ok (.if_icmp .ge 186, 3) := by decide +kernel
theorem dX4_goThrough_15 : decode cX4_goThrough 15 = .ok (.aload_n 0, 1) := by decide +kernel
theorem dX4_goThrough_16 : decode cX4_goThrough 16 = .ok (.getfield 15, 3) := by decide +kernel
theorem dX4_goThrough_19 : decode cX4_goThrough 19 = .ok (.ifCond .ne 179, 3) := by decide +kernel
theorem dX4_goThrough_22 : decode cX4_goThrough 22 = .ok (.aload_n 0, 1) := by decide +kernel
theorem dX4_goThrough_23 : decode cX4_goThrough 23 = .ok (.getfield 23, 3) := by decide +kernel
theorem dX4_goThrough_26 : decode cX4_goThrough 26 = .ok (.getfield 27, 3) := by decide +kernel
theorem dX4_goThrough_29 : decode cX4_goThrough 29 = .ok (.iload 4, 2) := by decide +kernel
theorem dX4_goThrough_31 : decode cX4_goThrough 31 = .ok (.iaload, 1) := by decide +kernel
theorem dX4_goThrough_32 : decode cX4_goThrough 32 = .ok (.iconst 5, 1) := by decide +kernel
theorem dX4_goThrough_33 : decode cX4_goThrough 33 = .ok (.if_icmp .ne 76, 3) := by decide +kernel
theorem dX4_goThrough_36 : decode cX4_goThrough 36 = .ok (.iconst (-1), 1) := by decide +kernel
theorem dX4_goThrough_37 : decode cX4_goThrough 37 = .ok (.istore 5, 2) := by decide +kernel
theorem dX4_goThrough_39 : decode cX4_goThrough 39 = .ok (.iconst 0, 1) := by decide +kernel
theorem dX4_goThrough_40 : decode cX4_goThrough 40 = .ok (.istore 6, 2) := by decide +kernel
theorem dX4_goThrough_42 : decode cX4_goThrough 42 = .ok (.iload 6, 2) := by decide +kernel
theorem dX4_goThrough_44 : decode cX4_goThrough 44 = .ok (.aload_n 0, 1) := by decide +kernel
theorem dX4_goThrough_45 : decode cX4_goThrough 45 = .ok (.getfield 23, 3) := by decide +kernel
theorem dX4_goThrough_48 : decode cX4_goThrough 48 = .ok (.getfield 33, 3) := by decide +kernel
theorem dX4_goThrough_51 : decode cX4_goThrough 51 = .ok (.iload 4, 2) := by decide +kernel
theorem dX4_goThrough_53 : decode cX4_goThrough 53 = .ok (.iaload, 1) := by decide +kernel
theorem dX4_goThrough_54 : decode cX4_goThrough 54 = .ok (.if_icmp .ge 52, 3) := by decide +kernel
theorem dX4_goThrough_57 : decode cX4_goThrough 57 = .ok (.aload_n 0, 1) := by decide +kernel
theorem dX4_goThrough_58 : decode cX4_goThrough 58 = .ok (.getfield 15, 3) := by decide +kernel
theorem dX4_goThrough_61 : decode cX4_goThrough 61 = .ok (.ifCond .ne 45, 3) := by decide +kernel
theorem dX4_goThrough_64 : decode cX4_goThrough 64 = .ok (.aload_n 0, 1) := by decide +kernel
theorem dX4_goThrough_65 : decode cX4_goThrough 65 = .ok (.getfield 9, 3) := by decide +kernel
theorem dX4_goThrough_68 : decode cX4_goThrough 68 = .ok (.iload 5, 2) := by decide +kernel
theorem dX4_goThrough_70 : decode cX4_goThrough 70 = .ok (.if_icmp .eq 36, 3) := by decide +kernel
theorem dX4_goThrough_73 : decode cX4_goThrough 73 = .ok (.aload_n 0, 1) := by decide +kernel
theorem dX4_goThrough_74 : decode cX4_goThrough 74 = .ok (.getfield 9, 3) := by decide +kernel
theorem dX4_goThrough_77 : decode cX4_goThrough 77 = .ok (.istore 5, 2) := by decide +kernel
theorem dX4_goThrough_79 : decode cX4_goThrough 79 = .ok (.aload_n 0, 1) := by decide +kernel
theorem dX4_goThrough_80 : decode cX4_goThrough 80 = .ok (.iload 4, 2) := by decide +kernel
theorem dX4_goThrough_82 : decode cX4_goThrough 82 = .ok (.iconst 1, 1) := by decide +kernel
theorem dX4_goThrough_83 : decode cX4_goThrough 83 = .ok (.iadd, 1) := by decide +kernel
theorem dX4_goThrough_84 : decode cX4_goThrough 84 = .ok (.aload_n 0, 1) := by decide +kernel
theorem dX4_goThrough_85 : decode cX4_goThrough 85 = .ok (.getfield 23, 3) := by decide +kernel
theorem dX4_goThrough_88 : decode cX4_goThrough 88 = .ok (.getfield 36, 3) := by decide +kernel
theorem dX4_goThrough_91 : decode cX4_goThrough 91 = .ok (.iload 4, 2) := by decide +kernel
theorem dX4_goThrough_93 : decode cX4_goThrough 93 = .ok (.iaload, 1) := by decide +kernel
theorem dX4_goThrough_94 : decode cX4_goThrough 94 = .ok (.iload_n 3, 1) := by decide +kernel
theorem dX4_goThrough_95 : decode cX4_goThrough 95 = .ok (.iconst 1, 1) := by decide +kernel
theorem dX4_goThrough_96 : decode cX4_goThrough 96 = .ok (.iadd, 1) := by decide +kernel
theorem dX4_goThrough_97 : decode cX4_goThrough 97 = .ok (.invokevirtual 39, 3) := by decide +kernel
theorem dX4_goThrough_100 : decode cX4_goThrough 100 = .ok (.iinc 6 1, 3) := by decide +kernel
theorem dX4_goThrough_103 : decode cX4_goThrough 103 = .ok (.goto (-61), 3) := by decide +kernel
theorem dX4_goThrough_106 : decode cX4_goThrough 106 = .ok (.goto 70, 3) := by decide +kernel
theorem dX4_goThrough_109 : decode cX4_goThrough 109 = .ok (.aload_n 0, 1) := by decide +kernel
theorem dX4_goThrough_110 : decode cX4_goThrough 110 = .ok (.getfield 23, 3) := by decide +kernel
theorem dX4_goThrough_113 : decode cX4_goThrough 113 = .ok (.getfield 27, 3) := by decide +kernel
theorem dX4_goThrough_116 : decode cX4_goThrough 116 = .ok (.iload 4, 2) := by decide +kernel
theorem dX4_goThrough_118 : decode cX4_goThrough 118 = .ok (.iaload, 1) := by decide +kernel
theorem dX4_goThrough_119 : decode cX4_goThrough 119 = .ok (.bipush 6, 2) := by decide +kernel
theorem dX4_goThrough_121 : decode cX4_goThrough 121 = .ok (.if_icmp .ne 49, 3) := by decide +kernel
theorem dX4_goThrough_124 : decode cX4_goThrough 124 = .ok (.aload_n 0, 1) := by decide +kernel
theorem dX4_goThrough_125 : decode cX4_goThrough 125 = .ok (.getfield 19, 3) := by decide +kernel
theorem dX4_goThrough_128 : decode cX4_goThrough 128 = .ok (.getfield 43, 3) := by decide +kernel
theorem dX4_goThrough_131 : decode cX4_goThrough 131 = .ok (.aload_n 0, 1) := by decide +kernel
theorem dX4_goThrough_132 : decode cX4_goThrough 132 = .ok (.getfield 23, 3) := by decide +kernel
theorem dX4_goThrough_135 : decode cX4_goThrough 135 = .ok (.getfield 48, 3) := by decide +kernel
theorem dX4_goThrough_138 : decode cX4_goThrough 138 = .ok (.iload 4, 2) := by decide +kernel
theorem dX4_goThrough_140 : decode cX4_goThrough 140 = .ok (.iaload, 1) := by decide +kernel
theorem dX4_goThrough_141 : decode cX4_goThrough 141 = .ok (.iaload, 1) := by decide +kernel
theorem dX4_goThrough_142 : decode cX4_goThrough 142 = .ok (.iconst (-1), 1) := by decide +kernel
theorem dX4_goThrough_143 : decode cX4_goThrough 143 = .ok (.if_icmp .eq 33, 3) := by decide +kernel
theorem dX4_goThrough_146 : decode cX4_goThrough 146 = .ok (.aload_n 0, 1) := by decide +kernel
theorem dX4_goThrough_147 : decode cX4_goThrough 147 = .ok (.iload 4, 2) := by decide +kernel
theorem dX4_goThrough_149 : decode cX4_goThrough 149 = .ok (.iconst 1, 1) := by decide +kernel
theorem dX4_goThrough_150 : decode cX4_goThrough 150 = .ok (.iadd, 1) := by decide +kernel
theorem dX4_goThrough_151 : decode cX4_goThrough 151 = .ok (.aload_n 0, 1) := by decide +kernel
theorem dX4_goThrough_152 : decode cX4_goThrough 152 = .ok (.getfield 23, 3) := by decide +kernel
theorem dX4_goThrough_155 : decode cX4_goThrough 155 = .ok (.getfield 36, 3) := by decide +kernel
theorem dX4_goThrough_158 : decode cX4_goThrough 158 = .ok (.iload 4, 2) := by decide +kernel
theorem dX4_goThrough_160 : decode cX4_goThrough 160 = .ok (.iaload, 1) := by decide +kernel
theorem dX4_goThrough_161 : decode cX4_goThrough 161 = .ok (.iload_n 3, 1) := by decide +kernel
theorem dX4_goThrough_162 : decode cX4_goThrough 162 = .ok (.iconst 1, 1) := by decide +kernel
theorem dX4_goThrough_163 : decode cX4_goThrough 163 = .ok (.iadd, 1) := by decide +kernel
theorem dX4_goThrough_164 : decode cX4_goThrough 164 = .ok (.invokevirtual 39, 3) := by decide +kernel
theorem dX4_goThrough_167 : decode cX4_goThrough 167 = .ok (.goto 9, 3) := by decide +kernel
theorem dX4_goThrough_170 : decode cX4_goThrough 170 = .ok (.aload_n 0, 1) := by decide +kernel
theorem dX4_goThrough_171 : decode cX4_goThrough 171 = .ok (.iload 4, 2) := by decide +kernel
theorem dX4_goThrough_173 : decode cX4_goThrough 173 = .ok (.invokevirtual 49, 3) := by decide +kernel
theorem dX4_goThrough_176 : decode cX4_goThrough 176 = .ok (.iload 4, 2) := by decide +kernel
theorem dX4_goThrough_178 : decode cX4_goThrough 178 = .ok (.iconst 1, 1) := by decide +kernel
theorem dX4_goThrough_179 : decode cX4_goThrough 179 = .ok (.iadd, 1) := by decide +kernel
theorem dX4_goThrough_180 : decode cX4_goThrough 180 = .ok (.aload_n 0, 1) := by decide +kernel
theorem dX4_goThrough_181 : decode cX4_goThrough 181 = .ok (.getfield 23, 3) := by decide +kernel
theorem dX4_goThrough_184 : decode cX4_goThrough 184 = .ok (.getfield 36, 3) := by decide +kernel
theorem dX4_goThrough_187 : decode cX4_goThrough 187 = .ok (.iload 4, 2) := by decide +kernel
theorem dX4_goThrough_189 : decode cX4_goThrough 189 = .ok (.iaload, 1) := by decide +kernel
theorem dX4_goThrough_190 : decode cX4_goThrough 190 = .ok (.invokestatic 53, 3) := by decide +kernel
theorem dX4_goThrough_193 : decode cX4_goThrough 193 = .ok (.istore 4, 2) := by decide +kernel
theorem dX4_goThrough_195 : decode cX4_goThrough 195 = .ok (.goto (-186), 3) := by decide +kernel
theorem dX4_goThrough_198 : decode cX4_goThrough 198 = .ok (.return_, 1) := by decide +kernel
theorem dX4_go_0 : decode cX4_go 0 = .ok (.aload_n 0, 1) := by decide +kernel
theorem dX4_go_1 : decode cX4_go 1 = .ok (.getfield 23, 3) := by decide +kernel
theorem dX4_go_4 : decode cX4_go 4 = .ok (.getfield 48, 3) := by decide +kernel
theorem dX4_go_7 : decode cX4_go 7 = .ok (.iload_n 1, 1) := by decide +kernel
theorem dX4_go_8 : decode cX4_go 8 = .ok (.iaload, 1) := by decide +kernel
theorem dX4_go_9 : decode cX4_go 9 = .ok (.istore_n 2, 1) := by decide +kernel
theorem dX4_go_10 : decode cX4_go 10 = .ok (.aload_n 0, 1) := by decide +kernel
theorem dX4_go_11 : decode cX4_go 11 = .ok (.getfield 23, 3) := by decide +kernel
theorem dX4_go_14 : decode cX4_go 14 = .ok (.getfield 59, 3) := by decide +kernel
theorem dX4_go_17 : decode cX4_go 17 = .ok (.iload_n 1, 1) := by decide +kernel
theorem dX4_go_18 : decode cX4_go 18 = .ok (.iaload, 1) := by decide +kernel
theorem dX4_go_19 : decode cX4_go 19 = .ok (.istore_n 3, 1) := by decide +kernel
theorem dX4_go_20 : decode cX4_go 20 = .ok (.aload_n 0, 1) := by decide +kernel
theorem dX4_go_21 : decode cX4_go 21 = .ok (.getfield 23, 3) := by decide +kernel
theorem dX4_go_24 : decode cX4_go 24 = .ok (.getfield 33, 3) := by decide +kernel
theorem dX4_go_27 : decode cX4_go 27 = .ok (.iload_n 1, 1) := by decide +kernel
theorem dX4_go_28 : decode cX4_go 28 = .ok (.iaload, 1) := by decide +kernel
theorem dX4_go_29 : decode cX4_go 29 = .ok (.istore 4, 2) := by decide +kernel
theorem dX4_go_31 : decode cX4_go 31 = .ok (.iconst 0, 1) := by decide +kernel
theorem dX4_go_32 : decode cX4_go 32 = .ok (.istore 5, 2) := by decide +kernel
theorem dX4_go_34 : decode cX4_go 34 = .ok (.aload_n 0, 1) := by decide +kernel
theorem dX4_go_35 : decode cX4_go 35 = .ok (.getfield 23, 3) := by decide +kernel
theorem dX4_go_38 : decode cX4_go 38 = .ok (.getfield 27, 3) := by decide +kernel
theorem dX4_go_41 : decode cX4_go 41 = .ok (.iload_n 1, 1) := by decide +kernel
theorem dX4_go_42 : decode cX4_go 42 = .ok (.iaload, 1) := by decide +kernel
theorem dX4_go_43 : decode cX4_go 43 = .ok (.tableswitch 126 0 3 #[29, 56, 76, 102], 29) := by decide +kernel
theorem dX4_go_72 : decode cX4_go 72 = .ok (.aload_n 0, 1) := by decide +kernel
theorem dX4_go_73 : decode cX4_go 73 = .ok (.aload_n 0, 1) := by decide +kernel
theorem dX4_go_74 : decode cX4_go 74 = .ok (.getfield 19, 3) := by decide +kernel
theorem dX4_go_77 : decode cX4_go 77 = .ok (.iload_n 2, 1) := by decide +kernel
theorem dX4_go_78 : decode cX4_go 78 = .ok (.iload 4, 2) := by decide +kernel
theorem dX4_go_80 : decode cX4_go 80 = .ok (.invokevirtual 62, 3) := by decide +kernel
theorem dX4_go_83 : decode cX4_go 83 = .ok (.bipush (-2), 2) := by decide +kernel
theorem dX4_go_85 : decode cX4_go 85 = .ok (.if_icmp .ne 7, 3) := by decide +kernel
theorem dX4_go_88 : decode cX4_go 88 = .ok (.iconst 1, 1) := by decide +kernel
theorem dX4_go_89 : decode cX4_go 89 = .ok (.goto 4, 3) := by decide +kernel
theorem dX4_go_92 : decode cX4_go 92 = .ok (.iconst 0, 1) := by decide +kernel
theorem dX4_go_93 : decode cX4_go 93 = .ok (.putfield 15, 3) := by decide +kernel
theorem dX4_go_96 : decode cX4_go 96 = .ok (.goto 83, 3) := by decide +kernel
theorem dX4_go_99 : decode cX4_go 99 = .ok (.aload_n 0, 1) := by decide +kernel
theorem dX4_go_100 : decode cX4_go 100 = .ok (.getfield 19, 3) := by decide +kernel
theorem dX4_go_103 : decode cX4_go 103 = .ok (.getfield 43, 3) := by decide +kernel
theorem dX4_go_106 : decode cX4_go 106 = .ok (.iload_n 2, 1) := by decide +kernel
theorem dX4_go_107 : decode cX4_go 107 = .ok (.aload_n 0, 1) := by decide +kernel
theorem dX4_go_108 : decode cX4_go 108 = .ok (.getfield 19, 3) := by decide +kernel
theorem dX4_go_111 : decode cX4_go 111 = .ok (.iload_n 3, 1) := by decide +kernel
theorem dX4_go_112 : decode cX4_go 112 = .ok (.invokevirtual 65, 3) := by decide +kernel
theorem dX4_go_115 : decode cX4_go 115 = .ok (.iastore, 1) := by decide +kernel
theorem dX4_go_116 : decode cX4_go 116 = .ok (.goto 63, 3) := by decide +kernel
theorem dX4_go_119 : decode cX4_go 119 = .ok (.aload_n 0, 1) := by decide +kernel
theorem dX4_go_120 : decode cX4_go 120 = .ok (.getfield 19, 3) := by decide +kernel
theorem dX4_go_123 : decode cX4_go 123 = .ok (.iload_n 2, 1) := by decide +kernel
theorem dX4_go_124 : decode cX4_go 124 = .ok (.iload_n 3, 1) := by decide +kernel
theorem dX4_go_125 : decode cX4_go 125 = .ok (.iload 4, 2) := by decide +kernel
theorem dX4_go_127 : decode cX4_go 127 = .ok (.invokevirtual 69, 3) := by decide +kernel
theorem dX4_go_130 : decode cX4_go 130 = .ok (.bipush (-2), 2) := by decide +kernel
theorem dX4_go_132 : decode cX4_go 132 = .ok (.if_icmp .ne 7, 3) := by decide +kernel
theorem dX4_go_135 : decode cX4_go 135 = .ok (.iconst 1, 1) := by decide +kernel
theorem dX4_go_136 : decode cX4_go 136 = .ok (.goto 4, 3) := by decide +kernel
theorem dX4_go_139 : decode cX4_go 139 = .ok (.iconst 0, 1) := by decide +kernel
theorem dX4_go_140 : decode cX4_go 140 = .ok (.istore 5, 2) := by decide +kernel
theorem dX4_go_142 : decode cX4_go 142 = .ok (.goto 37, 3) := by decide +kernel
theorem dX4_go_145 : decode cX4_go 145 = .ok (.aload_n 0, 1) := by decide +kernel
theorem dX4_go_146 : decode cX4_go 146 = .ok (.getfield 19, 3) := by decide +kernel
theorem dX4_go_149 : decode cX4_go 149 = .ok (.iload_n 2, 1) := by decide +kernel
theorem dX4_go_150 : decode cX4_go 150 = .ok (.iload 4, 2) := by decide +kernel
theorem dX4_go_152 : decode cX4_go 152 = .ok (.iload_n 3, 1) := by decide +kernel
theorem dX4_go_153 : decode cX4_go 153 = .ok (.invokevirtual 73, 3) := by decide +kernel
theorem dX4_go_156 : decode cX4_go 156 = .ok (.ifCond .ne 7, 3) := by decide +kernel
theorem dX4_go_159 : decode cX4_go 159 = .ok (.iconst 1, 1) := by decide +kernel
theorem dX4_go_160 : decode cX4_go 160 = .ok (.goto 4, 3) := by decide +kernel
theorem dX4_go_163 : decode cX4_go 163 = .ok (.iconst 0, 1) := by decide +kernel
theorem dX4_go_164 : decode cX4_go 164 = .ok (.istore 5, 2) := by decide +kernel
theorem dX4_go_166 : decode cX4_go 166 = .ok (.goto 13, 3) := by decide +kernel
theorem dX4_go_169 : decode cX4_go 169 = .ok (.aload_n 0, 1) := by decide +kernel
theorem dX4_go_170 : decode cX4_go 170 = .ok (.getfield 19, 3) := by decide +kernel
theorem dX4_go_173 : decode cX4_go 173 = .ok (.iload 4, 2) := by decide +kernel
theorem dX4_go_175 : decode cX4_go 175 = .ok (.invokevirtual 77, 3) := by decide +kernel
theorem dX4_go_178 : decode cX4_go 178 = .ok (.pop, 1) := by decide +kernel
theorem dX4_go_179 : decode cX4_go 179 = .ok (.iload 5, 2) := by decide +kernel
theorem dX4_go_181 : decode cX4_go 181 = .ok (.ifCond .eq 9, 3) := by decide +kernel
theorem dX4_go_184 : decode cX4_go 184 = .ok (.aload_n 0, 1) := by decide +kernel
theorem dX4_go_185 : decode cX4_go 185 = .ok (.iconst 1, 1) := by decide +kernel
theorem dX4_go_186 : decode cX4_go 186 = .ok (.putfield 15, 3) := by decide +kernel
theorem dX4_go_189 : decode cX4_go 189 = .ok (.return_, 1) := by decide +kernel
theorem dX4_go_190 : decode cX4_go 190 = .ok (.aload_n 0, 1) := by decide +kernel
theorem dX4_go_191 : decode cX4_go 191 = .ok (.dup, 1) := by decide +kernel
theorem dX4_go_192 : decode cX4_go 192 = .ok (.getfield 9, 3) := by decide +kernel
theorem dX4_go_195 : decode cX4_go 195 = .ok (.iconst 1, 1) := by decide +kernel
theorem dX4_go_196 : decode cX4_go 196 = .ok (.iadd, 1) := by decide +kernel
theorem dX4_go_197 : decode cX4_go 197 = .ok (.putfield 9, 3) := by decide +kernel
theorem dX4_go_200 : decode cX4_go 200 = .ok (.aload_n 0, 1) := by decide +kernel
theorem dX4_go_201 : decode cX4_go 201 = .ok (.getfield 9, 3) := by decide +kernel
theorem dX4_go_204 : decode cX4_go 204 = .ok (.sipush 300, 3) := by decide +kernel
theorem dX4_go_207 : decode cX4_go 207 = .ok (.if_icmp .lt 8, 3) := by decide +kernel
theorem dX4_go_210 : decode cX4_go 210 = .ok (.aload_n 0, 1) := by decide +kernel
theorem dX4_go_211 : decode cX4_go 211 = .ok (.iconst 1, 1) := by decide +kernel
theorem dX4_go_212 : decode cX4_go 212 = .ok (.putfield 15, 3) := by decide +kernel
theorem dX4_go_215 : decode cX4_go 215 = .ok (.return_, 1) := by decide +kernel
theorem dX5_init_0 : decode cX5_init 0 = .ok (.aload_n 0, 1) := by decide +kernel
theorem dX5_init_1 : decode cX5_init 1 = .ok (.invokespecial 3, 3) := by decide +kernel
theorem dX5_init_4 : decode cX5_init 4 = .ok (.aload_n 0, 1) := by decide +kernel
theorem dX5_init_5 : decode cX5_init 5 = .ok (.bipush 40, 2) := by decide +kernel
theorem dX5_init_7 : decode cX5_init 7 = .ok (.newarray .int, 2) := by decide +kernel
theorem dX5_init_9 : decode cX5_init 9 = .ok (.putfield 9, 3) := by decide +kernel
theorem dX5_init_12 : decode cX5_init 12 = .ok (.aload_n 0, 1) := by decide +kernel
theorem dX5_init_13 : decode cX5_init 13 = .ok (.bipush 40, 2) := by decide +kernel
theorem dX5_init_15 : decode cX5_init 15 = .ok (.newarray .int, 2) := by decide +kernel
theorem dX5_init_17 : decode cX5_init 17 = .ok (.putfield 15, 3) := by decide +kernel
theorem dX5_init_20 : decode cX5_init 20 = .ok (.aload_n 0, 1) := by decide +kernel
theorem dX5_init_21 : decode cX5_init 21 = .ok (.bipush 40, 2) := by decide +kernel
theorem dX5_init_23 : decode cX5_init 23 = .ok (.newarray .int, 2) := by decide +kernel
theorem dX5_init_25 : decode cX5_init 25 = .ok (.putfield 18, 3) := by decide +kernel
theorem dX5_init_28 : decode cX5_init 28 = .ok (.aload_n 0, 1) := by decide +kernel
theorem dX5_init_29 : decode cX5_init 29 = .ok (.bipush 40, 2) := by decide +kernel
theorem dX5_init_31 : decode cX5_init 31 = .ok (.newarray .int, 2) := by decide +kernel
theorem dX5_init_33 : decode cX5_init 33 = .ok (.putfield 21, 3) := by decide +kernel
theorem dX5_init_36 : decode cX5_init 36 = .ok (.aload_n 0, 1) := by decide +kernel
theorem dX5_init_37 : decode cX5_init 37 = .ok (.bipush 40, 2) := by decide +kernel
theorem dX5_init_39 : decode cX5_init 39 = .ok (.newarray .int, 2) := by decide +kernel
theorem dX5_init_41 : decode cX5_init 41 = .ok (.putfield 24, 3) := by decide +kernel
theorem dX5_init_44 : decode cX5_init 44 = .ok (.aload_n 0, 1) := by decide +kernel
theorem dX5_init_45 : decode cX5_init 45 = .ok (.iconst 0, 1) := by decide +kernel
theorem dX5_init_46 : decode cX5_init 46 = .ok (.putfield 27, 3) := by decide +kernel
theorem dX5_init_49 : decode cX5_init 49 = .ok (.return_, 1) := by decide +kernel
theorem dX5_add_0 : decode cX5_add 0 = .ok (.aload_n 0, 1) := by decide +kernel
theorem dX5_add_1 : decode cX5_add 1 = .ok (.getfield 27, 3) := by decide +kernel
theorem dX5_add_4 : decode cX5_add 4 = .ok (.bipush 40, 2) := by decide +kernel
theorem dX5_add_6 : decode cX5_add 6 = .ok (.if_icmp .ge 69, 3) := by decide +kernel
theorem dX5_add_9 : decode cX5_add 9 = .ok (.aload_n 0, 1) := by decide +kernel
theorem dX5_add_10 : decode cX5_add 10 = .ok (.getfield 9, 3) := by decide +kernel
theorem dX5_add_13 : decode cX5_add 13 = .ok (.aload_n 0, 1) := by decide +kernel
theorem dX5_add_14 : decode cX5_add 14 = .ok (.getfield 27, 3) := by decide +kernel
theorem dX5_add_17 : decode cX5_add 17 = .ok (.iload_n 1, 1) := by decide +kernel
theorem dX5_add_18 : decode cX5_add 18 = .ok (.iastore, 1) := by decide +kernel
theorem dX5_add_19 : decode cX5_add 19 = .ok (.aload_n 0, 1) := by decide +kernel
theorem dX5_add_20 : decode cX5_add 20 = .ok (.getfield 15, 3) := by decide +kernel
theorem dX5_add_23 : decode cX5_add 23 = .ok (.aload_n 0, 1) := by decide +kernel
theorem dX5_add_24 : decode cX5_add 24 = .ok (.getfield 27, 3) := by decide +kernel
theorem dX5_add_27 : decode cX5_add 27 = .ok (.iload_n 2, 1) := by decide +kernel
theorem dX5_add_28 : decode cX5_add 28 = .ok (.iastore, 1) := by decide +kernel
theorem dX5_add_29 : decode cX5_add 29 = .ok (.aload_n 0, 1) := by decide +kernel
theorem dX5_add_30 : decode cX5_add 30 = .ok (.getfield 18, 3) := by decide +kernel
theorem dX5_add_33 : decode cX5_add 33 = .ok (.aload_n 0, 1) := by decide +kernel
theorem dX5_add_34 : decode cX5_add 34 = .ok (.getfield 27, 3) := by decide +kernel
theorem dX5_add_37 : decode cX5_add 37 = .ok (.iload_n 3, 1) := by decide +kernel
theorem dX5_add_38 : decode cX5_add 38 = .ok (.iastore, 1) := by decide +kernel
theorem dX5_add_39 : decode cX5_add 39 = .ok (.aload_n 0, 1) := by decide +kernel
theorem dX5_add_40 : decode cX5_add 40 = .ok (.getfield 21, 3) := by decide +kernel
theorem dX5_add_43 : decode cX5_add 43 = .ok (.aload_n 0, 1) := by decide +kernel
theorem dX5_add_44 : decode cX5_add 44 = .ok (.getfield 27, 3) := by decide +kernel
theorem dX5_add_47 : decode cX5_add 47 = .ok (.iload 4, 2) := by decide +kernel
theorem dX5_add_49 : decode cX5_add 49 = .ok (.iastore, 1) := by decide +kernel
theorem dX5_add_50 : decode cX5_add 50 = .ok (.aload_n 0, 1) := by decide +kernel
theorem dX5_add_51 : decode cX5_add 51 = .ok (.dup, 1) := by decide +kernel
theorem dX5_add_52 : decode cX5_add 52 = .ok (.getfield 27, 3) := by decide +kernel
theorem dX5_add_55 : decode cX5_add 55 = .ok (.iconst 1, 1) := by decide +kernel
theorem dX5_add_56 : decode cX5_add 56 = .ok (.iadd, 1) := by decide +kernel
theorem dX5_add_57 : decode cX5_add 57 = .ok (.putfield 27, 3) := by decide +kernel
theorem dX5_add_60 : decode cX5_add 60 = .ok (.aload_n 0, 1) := by decide +kernel
theorem dX5_add_61 : decode cX5_add 61 = .ok (.getfield 24, 3) := by decide +kernel
theorem dX5_add_64 : decode cX5_add 64 = .ok (.aload_n 0, 1) := by decide +kernel
theorem dX5_add_65 : decode cX5_add 65 = .ok (.getfield 27, 3) := by decide +kernel
theorem dX5_add_68 : decode cX5_add 68 = .ok (.iconst 1, 1) := by decide +kernel
theorem dX5_add_69 : decode cX5_add 69 = .ok (.isub, 1) := by decide +kernel
theorem dX5_add_70 : decode cX5_add 70 = .ok (.aload_n 0, 1) := by decide +kernel
theorem dX5_add_71 : decode cX5_add 71 = .ok (.getfield 27, 3) := by decide +kernel
theorem dX5_add_74 : decode cX5_add 74 = .ok (.iastore, 1) := by decide +kernel
theorem dX5_add_75 : decode cX5_add 75 = .ok (.return_, 1) := by decide +kernel
theorem dX6_init_0 : decode cX6_init 0 = .ok (.aload_n 0, 1) := by decide +kernel
theorem dX6_init_1 : decode cX6_init 1 = .ok (.invokespecial 1, 3) := by decide +kernel
theorem dX6_init_4 : decode cX6_init 4 = .ok (.aload_n 0, 1) := by decide +kernel
theorem dX6_init_5 : decode cX6_init 5 = .ok (.bipush 21, 2) := by decide +kernel
theorem dX6_init_7 : decode cX6_init 7 = .ok (.anewarray 9, 3) := by decide +kernel
theorem dX6_init_10 : decode cX6_init 10 = .ok (.putfield 11, 3) := by decide +kernel
theorem dX6_init_13 : decode cX6_init 13 = .ok (.aload_n 0, 1) := by decide +kernel
theorem dX6_init_14 : decode cX6_init 14 = .ok (.iconst 0, 1) := by decide +kernel
theorem dX6_init_15 : decode cX6_init 15 = .ok (.putfield 15, 3) := by decide +kernel
theorem dX6_init_18 : decode cX6_init 18 = .ok (.aload_n 0, 1) := by decide +kernel
theorem dX6_init_19 : decode cX6_init 19 = .ok (.iconst 0, 1) := by decide +kernel
theorem dX6_init_20 : decode cX6_init 20 = .ok (.putfield 19, 3) := by decide +kernel
theorem dX6_init_23 : decode cX6_init 23 = .ok (.aload_n 0, 1) := by decide +kernel
theorem dX6_init_24 : decode cX6_init 24 = .ok (.iconst 0, 1) := by decide +kernel
theorem dX6_init_25 : decode cX6_init 25 = .ok (.putfield 22, 3) := by decide +kernel
theorem dX6_init_28 : decode cX6_init 28 = .ok (.aload_n 0, 1) := by decide +kernel
theorem dX6_init_29 : decode cX6_init 29 = .ok (.iconst 2, 1) := by decide +kernel
theorem dX6_init_30 : decode cX6_init 30 = .ok (.anewarray 9, 3) := by decide +kernel
theorem dX6_init_33 : decode cX6_init 33 = .ok (.putfield 25, 3) := by decide +kernel
theorem dX6_init_36 : decode cX6_init 36 = .ok (.aload_n 0, 1) := by decide +kernel
theorem dX6_init_37 : decode cX6_init 37 = .ok (.iconst 2, 1) := by decide +kernel
theorem dX6_init_38 : decode cX6_init 38 = .ok (.newarray .boolean, 2) := by decide +kernel
theorem dX6_init_40 : decode cX6_init 40 = .ok (.putfield 28, 3) := by decide +kernel
theorem dX6_init_43 : decode cX6_init 43 = .ok (.aload_n 0, 1) := by decide +kernel
theorem dX6_init_44 : decode cX6_init 44 = .ok (.new 9, 3) := by decide +kernel
theorem dX6_init_47 : decode cX6_init 47 = .ok (.dup, 1) := by decide +kernel
theorem dX6_init_48 : decode cX6_init 48 = .ok (.invokespecial 32, 3) := by decide +kernel
theorem dX6_init_51 : decode cX6_init 51 = .ok (.putfield 33, 3) := by decide +kernel
theorem dX6_init_54 : decode cX6_init 54 = .ok (.aload_n 0, 1) := by decide +kernel
theorem dX6_init_55 : decode cX6_init 55 = .ok (.bipush 6, 2) := by decide +kernel
theorem dX6_init_57 : decode cX6_init 57 = .ok (.newarray .int, 2) := by decide +kernel
theorem dX6_init_59 : decode cX6_init 59 = .ok (.putfield 37, 3) := by decide +kernel
theorem dX6_init_62 : decode cX6_init 62 = .ok (.aload_n 0, 1) := by decide +kernel
theorem dX6_init_63 : decode cX6_init 63 = .ok (.new 41, 3) := by decide +kernel
theorem dX6_init_66 : decode cX6_init 66 = .ok (.dup, 1) := by decide +kernel
theorem dX6_init_67 : decode cX6_init 67 = .ok (.invokespecial 43, 3) := by decide +kernel
theorem dX6_init_70 : decode cX6_init 70 = .ok (.putfield 44, 3) := by decide +kernel
theorem dX6_init_73 : decode cX6_init 73 = .ok (.aload_n 0, 1) := by decide +kernel
theorem dX6_init_74 : decode cX6_init 74 = .ok (.sipush 400, 3) := by decide +kernel
theorem dX6_init_77 : decode cX6_init 77 = .ok (.newarray .int, 2) := by decide +kernel
theorem dX6_init_79 : decode cX6_init 79 = .ok (.putfield 48, 3) := by decide +kernel
theorem dX6_init_82 : decode cX6_init 82 = .ok (.aload_n 0, 1) := by decide +kernel
theorem dX6_init_83 : decode cX6_init 83 = .ok (.iconst 0, 1) := by decide +kernel
theorem dX6_init_84 : decode cX6_init 84 = .ok (.putfield 51, 3) := by decide +kernel
theorem dX6_init_87 : decode cX6_init 87 = .ok (.aload_n 0, 1) := by decide +kernel
theorem dX6_init_88 : decode cX6_init 88 = .ok (.new 54, 3) := by decide +kernel
theorem dX6_init_91 : decode cX6_init 91 = .ok (.dup, 1) := by decide +kernel
theorem dX6_init_92 : decode cX6_init 92 = .ok (.invokespecial 56, 3) := by decide +kernel
theorem dX6_init_95 : decode cX6_init 95 = .ok (.putfield 57, 3) := by decide +kernel
theorem dX6_init_98 : decode cX6_init 98 = .ok (.aload_n 0, 1) := by decide +kernel
theorem dX6_init_99 : decode cX6_init 99 = .ok (.new 61, 3) := by decide +kernel
theorem dX6_init_102 : decode cX6_init 102 = .ok (.dup, 1) := by decide +kernel
theorem dX6_init_103 : decode cX6_init 103 = .ok (.invokespecial 63, 3) := by decide +kernel
theorem dX6_init_106 : decode cX6_init 106 = .ok (.putfield 64, 3) := by decide +kernel
theorem dX6_init_109 : decode cX6_init 109 = .ok (.aload_n 0, 1) := by decide +kernel
theorem dX6_init_110 : decode cX6_init 110 = .ok (.new 61, 3) := by decide +kernel
theorem dX6_init_113 : decode cX6_init 113 = .ok (.dup, 1) := by decide +kernel
theorem dX6_init_114 : decode cX6_init 114 = .ok (.invokespecial 63, 3) := by decide +kernel
theorem dX6_init_117 : decode cX6_init 117 = .ok (.putfield 68, 3) := by decide +kernel
theorem dX6_init_120 : decode cX6_init 120 = .ok (.aload_n 0, 1) := by decide +kernel
theorem dX6_init_121 : decode cX6_init 121 = .ok (.new 71, 3) := by decide +kernel
theorem dX6_init_124 : decode cX6_init 124 = .ok (.dup, 1) := by decide +kernel
theorem dX6_init_125 : decode cX6_init 125 = .ok (.aload_n 0, 1) := by decide +kernel
theorem dX6_init_126 : decode cX6_init 126 = .ok (.getfield 33, 3) := by decide +kernel
theorem dX6_init_129 : decode cX6_init 129 = .ok (.aload_n 0, 1) := by decide +kernel
theorem dX6_init_130 : decode cX6_init 130 = .ok (.getfield 64, 3) := by decide +kernel
theorem dX6_init_133 : decode cX6_init 133 = .ok (.invokespecial 73, 3) := by decide +kernel
theorem dX6_init_136 : decode cX6_init 136 = .ok (.putfield 76, 3) := by decide +kernel
theorem dX6_init_139 : decode cX6_init 139 = .ok (.iconst 0, 1) := by decide +kernel
theorem dX6_init_140 : decode cX6_init 140 = .ok (.istore_n 1, 1) := by decide +kernel
theorem dX6_init_141 : decode cX6_init 141 = .ok (.iload_n 1, 1) := by decide +kernel
theorem dX6_init_142 : decode cX6_init 142 = .ok (.aload_n 0, 1) := by decide +kernel
theorem dX6_init_143 : decode cX6_init 143 = .ok (.getfield 11, 3) := by decide +kernel
theorem dX6_init_146 : decode cX6_init 146 = .ok (.arraylength, 1) := by decide +kernel
theorem dX6_init_147 : decode cX6_init 147 = .ok (.if_icmp .ge 22, 3) := by decide +kernel
theorem dX6_init_150 : decode cX6_init 150 = .ok (.aload_n 0, 1) := by decide +kernel
theorem dX6_init_151 : decode cX6_init 151 = .ok (.getfield 11, 3) := by decide +kernel
theorem dX6_init_154 : decode cX6_init 154 = .ok (.iload_n 1, 1) := by decide +kernel
theorem dX6_init_155 : decode cX6_init 155 = .ok (.new 9, 3) := by decide +kernel
theorem dX6_init_158 : decode cX6_init 158 = .ok (.dup, 1) := by decide +kernel
theorem dX6_init_159 : decode cX6_init 159 = .ok (.invokespecial 32, 3) := by decide +kernel
theorem dX6_init_162 : decode cX6_init 162 = .ok (.aastore, 1) := by decide +kernel
theorem dX6_init_163 : decode cX6_init 163 = .ok (.iinc 1 1, 3) := by decide +kernel
theorem dX6_init_166 : decode cX6_init 166 = .ok (.goto (-25), 3) := by decide +kernel
theorem dX6_init_169 : decode cX6_init 169 = .ok (.iconst 0, 1) := by decide +kernel
theorem dX6_init_170 : decode cX6_init 170 = .ok (.istore_n 1, 1) := by decide +kernel
theorem dX6_init_171 : decode cX6_init 171 = .ok (.iload_n 1, 1) := by decide +kernel
theorem dX6_init_172 : decode cX6_init 172 = .ok (.iconst 2, 1) := by decide +kernel
theorem dX6_init_173 : decode cX6_init 173 = .ok (.if_icmp .ge 22, 3) := by decide +kernel
theorem dX6_init_176 : decode cX6_init 176 = .ok (.aload_n 0, 1) := by decide +kernel
theorem dX6_init_177 : decode cX6_init 177 = .ok (.getfield 25, 3) := by decide +kernel
theorem dX6_init_180 : decode cX6_init 180 = .ok (.iload_n 1, 1) := by decide +kernel
theorem dX6_init_181 : decode cX6_init 181 = .ok (.new 9, 3) := by decide +kernel
theorem dX6_init_184 : decode cX6_init 184 = .ok (.dup, 1) := by decide +kernel
theorem dX6_init_185 : decode cX6_init 185 = .ok (.invokespecial 32, 3) := by decide +kernel
theorem dX6_init_188 : decode cX6_init 188 = .ok (.aastore, 1) := by decide +kernel
theorem dX6_init_189 : decode cX6_init 189 = .ok (.iinc 1 1, 3) := by decide +kernel
theorem dX6_init_192 : decode cX6_init 192 = .ok (.goto (-21), 3) := by decide +kernel
theorem dX6_init_195 : decode cX6_init 195 = .ok (.return_, 1) := by decide +kernel
theorem dX6_open_0 : decode cX6_open 0 = .ok (.iload_n 1, 1) := by decide +kernel
theorem dX6_open_1 : decode cX6_open 1 = .ok (.iconst 1, 1) := by decide +kernel
theorem dX6_open_2 : decode cX6_open 2 = .ok (.if_icmp .lt 9, 3) := by decide +kernel
theorem dX6_open_5 : decode cX6_open 5 = .ok (.iload_n 1, 1) := by decide +kernel
theorem dX6_open_6 : decode cX6_open 6 = .ok (.bipush 8, 2) := by decide +kernel
theorem dX6_open_8 : decode cX6_open 8 = .ok (.if_icmp .le 5, 3) := by decide +kernel
theorem dX6_open_11 : decode cX6_open 11 = .ok (.iconst 0, 1) := by decide +kernel
theorem dX6_open_12 : decode cX6_open 12 = .ok (.ireturn, 1) := by decide +kernel
theorem dX6_open_13 : decode cX6_open 13 = .ok (.aload_n 0, 1) := by decide +kernel
theorem dX6_open_14 : decode cX6_open 14 = .ok (.invokevirtual 80, 3) := by decide +kernel
theorem dX6_open_17 : decode cX6_open 17 = .ok (.iload_n 1, 1) := by decide +kernel
theorem dX6_open_18 : decode cX6_open 18 = .ok (.invokevirtual 84, 3) := by decide +kernel
theorem dX6_open_21 : decode cX6_open 21 = .ok (.aload_n 0, 1) := by decide +kernel
theorem dX6_open_22 : decode cX6_open 22 = .ok (.invokevirtual 88, 3) := by decide +kernel
theorem dX6_open_25 : decode cX6_open 25 = .ok (.iconst 1, 1) := by decide +kernel
theorem dX6_open_26 : decode cX6_open 26 = .ok (.ireturn, 1) := by decide +kernel
theorem dX6_make_0 : decode cX6_make 0 = .ok (.iload_n 1, 1) := by decide +kernel
theorem dX6_make_1 : decode cX6_make 1 = .ok (.invokestatic 91, 3) := by decide +kernel
theorem dX6_make_4 : decode cX6_make 4 = .ok (.ifCond .eq 10, 3) := by decide +kernel
theorem dX6_make_7 : decode cX6_make 7 = .ok (.iload_n 2, 1) := by decide +kernel
theorem dX6_make_8 : decode cX6_make 8 = .ok (.invokestatic 95, 3) := by decide +kernel
theorem dX6_make_11 : decode cX6_make 11 = .ok (.ifCond .ne 5, 3) := by decide +kernel
theorem dX6_make_14 : decode cX6_make 14 = .ok (.iconst (-1), 1) := by decide +kernel
theorem dX6_make_15 : decode cX6_make 15 = .ok (.ireturn, 1) := by decide +kernel
theorem dX6_make_16 : decode cX6_make 16 = .ok (.aload_n 0, 1) := by decide +kernel
theorem dX6_make_17 : decode cX6_make 17 = .ok (.invokevirtual 98, 3) := by decide +kernel
theorem dX6_make_20 : decode cX6_make 20 = .ok (.iload_n 1, 1) := by decide +kernel
theorem dX6_make_21 : decode cX6_make 21 = .ok (.iload_n 2, 1) := by decide +kernel
theorem dX6_make_22 : decode cX6_make 22 = .ok (.invokevirtual 101, 3) := by decide +kernel
theorem dX6_make_25 : decode cX6_make 25 = .ok (.ireturn, 1) := by decide +kernel
theorem dX6_load_0 : decode cX6_load 0 = .ok (.iload_n 1, 1) := by decide +kernel
theorem dX6_load_1 : decode cX6_load 1 = .ok (.invokestatic 91, 3) := by decide +kernel
theorem dX6_load_4 : decode cX6_load 4 = .ok (.ifCond .eq 23, 3) := by decide +kernel
theorem dX6_load_7 : decode cX6_load 7 = .ok (.iload_n 2, 1) := by decide +kernel
theorem dX6_load_8 : decode cX6_load 8 = .ok (.invokestatic 91, 3) := by decide +kernel
theorem dX6_load_11 : decode cX6_load 11 = .ok (.ifCond .eq 16, 3) := by decide +kernel
theorem dX6_load_14 : decode cX6_load 14 = .ok (.aload_n 0, 1) := by decide +kernel
theorem dX6_load_15 : decode cX6_load 15 = .ok (.invokevirtual 80, 3) := by decide +kernel
theorem dX6_load_18 : decode cX6_load 18 = .ok (.iload_n 2, 1) := by decide +kernel
theorem dX6_load_19 : decode cX6_load 19 = .ok (.iload_n 3, 1) := by decide +kernel
theorem dX6_load_20 : decode cX6_load 20 = .ok (.invokevirtual 105, 3) := by decide +kernel
theorem dX6_load_23 : decode cX6_load 23 = .ok (.iconst (-1), 1) := by decide +kernel
theorem dX6_load_24 : decode cX6_load 24 = .ok (.if_icmp .ne 6, 3) := by decide +kernel
theorem dX6_load_27 : decode cX6_load 27 = .ok (.bipush (-2), 2) := by decide +kernel
theorem dX6_load_29 : decode cX6_load 29 = .ok (.ireturn, 1) := by decide +kernel
theorem dX6_load_30 : decode cX6_load 30 = .ok (.aload_n 0, 1) := by decide +kernel
theorem dX6_load_31 : decode cX6_load 31 = .ok (.invokevirtual 98, 3) := by decide +kernel
theorem dX6_load_34 : decode cX6_load 34 = .ok (.iload_n 1, 1) := by decide +kernel
theorem dX6_load_35 : decode cX6_load 35 = .ok (.iload_n 2, 1) := by decide +kernel
theorem dX6_load_36 : decode cX6_load 36 = .ok (.iload_n 3, 1) := by decide +kernel
theorem dX6_load_37 : decode cX6_load 37 = .ok (.invokevirtual 108, 3) := by decide +kernel
theorem dX6_load_40 : decode cX6_load 40 = .ok (.ireturn, 1) := by decide +kernel
theorem dX6_store_0 : decode cX6_store 0 = .ok (.iload_n 1, 1) := by decide +kernel
theorem dX6_store_1 : decode cX6_store 1 = .ok (.invokestatic 91, 3) := by decide +kernel
theorem dX6_store_4 : decode cX6_store 4 = .ok (.ifCond .eq 23, 3) := by decide +kernel
theorem dX6_store_7 : decode cX6_store 7 = .ok (.iload_n 3, 1) := by decide +kernel
theorem dX6_store_8 : decode cX6_store 8 = .ok (.invokestatic 112, 3) := by decide +kernel
theorem dX6_store_11 : decode cX6_store 11 = .ok (.ifCond .eq 16, 3) := by decide +kernel
theorem dX6_store_14 : decode cX6_store 14 = .ok (.aload_n 0, 1) := by decide +kernel
theorem dX6_store_15 : decode cX6_store 15 = .ok (.invokevirtual 80, 3) := by decide +kernel
theorem dX6_store_18 : decode cX6_store 18 = .ok (.iload_n 1, 1) := by decide +kernel
theorem dX6_store_19 : decode cX6_store 19 = .ok (.iload_n 2, 1) := by decide +kernel
theorem dX6_store_20 : decode cX6_store 20 = .ok (.invokevirtual 105, 3) := by decide +kernel
theorem dX6_store_23 : decode cX6_store 23 = .ok (.iconst (-1), 1) := by decide +kernel
theorem dX6_store_24 : decode cX6_store 24 = .ok (.if_icmp .ne 5, 3) := by decide +kernel
theorem dX6_store_27 : decode cX6_store 27 = .ok (.iconst 0, 1) := by decide +kernel
theorem dX6_store_28 : decode cX6_store 28 = .ok (.ireturn, 1) := by decide +kernel
theorem dX6_store_29 : decode cX6_store 29 = .ok (.aload_n 0, 1) := by decide +kernel
theorem dX6_store_30 : decode cX6_store 30 = .ok (.invokevirtual 98, 3) := by decide +kernel
theorem dX6_store_33 : decode cX6_store 33 = .ok (.iload_n 1, 1) := by decide +kernel
theorem dX6_store_34 : decode cX6_store 34 = .ok (.iload_n 2, 1) := by decide +kernel
theorem dX6_store_35 : decode cX6_store 35 = .ok (.iload_n 3, 1) := by decide +kernel
theorem dX6_store_36 : decode cX6_store 36 = .ok (.invokevirtual 115, 3) := by decide +kernel
theorem dX6_store_39 : decode cX6_store 39 = .ok (.pop, 1) := by decide +kernel
theorem dX6_store_40 : decode cX6_store 40 = .ok (.iconst 1, 1) := by decide +kernel
theorem dX6_store_41 : decode cX6_store 41 = .ok (.ireturn, 1) := by decide +kernel
theorem dX6_copy_0 : decode cX6_copy 0 = .ok (.iload_n 1, 1) := by decide +kernel
theorem dX6_copy_1 : decode cX6_copy 1 = .ok (.invokestatic 91, 3) := by decide +kernel
theorem dX6_copy_4 : decode cX6_copy 4 = .ok (.ifCond .eq 10, 3) := by decide +kernel
theorem dX6_copy_7 : decode cX6_copy 7 = .ok (.iload_n 2, 1) := by decide +kernel
theorem dX6_copy_8 : decode cX6_copy 8 = .ok (.invokestatic 112, 3) := by decide +kernel
theorem dX6_copy_11 : decode cX6_copy 11 = .ok (.ifCond .ne 5, 3) := by decide +kernel
theorem dX6_copy_14 : decode cX6_copy 14 = .ok (.iconst 0, 1) := by decide +kernel
theorem dX6_copy_15 : decode cX6_copy 15 = .ok (.ireturn, 1) := by decide +kernel
theorem dX6_copy_16 : decode cX6_copy 16 = .ok (.aload_n 0, 1) := by decide +kernel
theorem dX6_copy_17 : decode cX6_copy 17 = .ok (.invokevirtual 98, 3) := by decide +kernel
theorem dX6_copy_20 : decode cX6_copy 20 = .ok (.astore_n 3, 1) := by decide +kernel
theorem dX6_copy_21 : decode cX6_copy 21 = .ok (.aload_n 3, 1) := by decide +kernel
theorem dX6_copy_22 : decode cX6_copy 22 = .ok (.getfield 119, 3) := by decide +kernel
theorem dX6_copy_25 : decode cX6_copy 25 = .ok (.iload_n 1, 1) := by decide +kernel
theorem dX6_copy_26 : decode cX6_copy 26 = .ok (.aload_n 3, 1) := by decide +kernel
theorem dX6_copy_27 : decode cX6_copy 27 = .ok (.iload_n 2, 1) := by decide +kernel
theorem dX6_copy_28 : decode cX6_copy 28 = .ok (.invokevirtual 122, 3) := by decide +kernel
theorem dX6_copy_31 : decode cX6_copy 31 = .ok (.iastore, 1) := by decide +kernel
theorem dX6_copy_32 : decode cX6_copy 32 = .ok (.iconst 1, 1) := by decide +kernel
theorem dX6_copy_33 : decode cX6_copy 33 = .ok (.ireturn, 1) := by decide +kernel
theorem dX6_weak_0 : decode cX6_weak 0 = .ok (.iload_n 1, 1) := by decide +kernel
theorem dX6_weak_1 : decode cX6_weak 1 = .ok (.invokestatic 126, 3) := by decide +kernel
theorem dX6_weak_4 : decode cX6_weak 4 = .ok (.ifCond .eq 10, 3) := by decide +kernel
theorem dX6_weak_7 : decode cX6_weak 7 = .ok (.iload_n 2, 1) := by decide +kernel
theorem dX6_weak_8 : decode cX6_weak 8 = .ok (.invokestatic 112, 3) := by decide +kernel
theorem dX6_weak_11 : decode cX6_weak 11 = .ok (.ifCond .ne 5, 3) := by decide +kernel
theorem dX6_weak_14 : decode cX6_weak 14 = .ok (.iconst 0, 1) := by decide +kernel
theorem dX6_weak_15 : decode cX6_weak 15 = .ok (.ireturn, 1) := by decide +kernel
theorem dX6_weak_16 : decode cX6_weak 16 = .ok (.aload_n 0, 1) := by decide +kernel
theorem dX6_weak_17 : decode cX6_weak 17 = .ok (.invokevirtual 98, 3) := by decide +kernel
theorem dX6_weak_20 : decode cX6_weak 20 = .ok (.astore_n 3, 1) := by decide +kernel
theorem dX6_weak_21 : decode cX6_weak 21 = .ok (.aload_n 3, 1) := by decide +kernel
theorem dX6_weak_22 : decode cX6_weak 22 = .ok (.getfield 129, 3) := by decide +kernel
theorem dX6_weak_25 : decode cX6_weak 25 = .ok (.iload_n 1, 1) := by decide +kernel
theorem dX6_weak_26 : decode cX6_weak 26 = .ok (.aload_n 3, 1) := by decide +kernel
theorem dX6_weak_27 : decode cX6_weak 27 = .ok (.iload_n 2, 1) := by decide +kernel
theorem dX6_weak_28 : decode cX6_weak 28 = .ok (.invokevirtual 122, 3) := by decide +kernel
theorem dX6_weak_31 : decode cX6_weak 31 = .ok (.iastore, 1) := by decide +kernel
theorem dX6_weak_32 : decode cX6_weak 32 = .ok (.iconst 1, 1) := by decide +kernel
theorem dX6_weak_33 : decode cX6_weak 33 = .ok (.ireturn, 1) := by decide +kernel
theorem dX6_strong_0 : decode cX6_strong 0 = .ok (.iload_n 1, 1) := by decide +kernel
theorem dX6_strong_1 : decode cX6_strong 1 = .ok (.invokestatic 91, 3) := by decide +kernel
theorem dX6_strong_4 : decode cX6_strong 4 = .ok (.ifCond .eq 10, 3) := by decide +kernel
theorem dX6_strong_7 : decode cX6_strong 7 = .ok (.iload_n 2, 1) := by decide +kernel
theorem dX6_strong_8 : decode cX6_strong 8 = .ok (.invokestatic 126, 3) := by decide +kernel
theorem dX6_strong_11 : decode cX6_strong 11 = .ok (.ifCond .ne 6, 3) := by decide +kernel
theorem dX6_strong_14 : decode cX6_strong 14 = .ok (.bipush (-2), 2) := by decide +kernel
theorem dX6_strong_16 : decode cX6_strong 16 = .ok (.ireturn, 1) := by decide +kernel
theorem dX6_strong_17 : decode cX6_strong 17 = .ok (.aload_n 0, 1) := by decide +kernel
theorem dX6_strong_18 : decode cX6_strong 18 = .ok (.invokevirtual 98, 3) := by decide +kernel
theorem dX6_strong_21 : decode cX6_strong 21 = .ok (.iload_n 1, 1) := by decide +kernel
theorem dX6_strong_22 : decode cX6_strong 22 = .ok (.iload_n 2, 1) := by decide +kernel
theorem dX6_strong_23 : decode cX6_strong 23 = .ok (.invokevirtual 132, 3) := by decide +kernel
theorem dX6_strong_26 : decode cX6_strong 26 = .ok (.ireturn, 1) := by decide +kernel
theorem dX6_start_0 : decode cX6_start 0 = .ok (.aload_n 0, 1) := by decide +kernel
theorem dX6_start_1 : decode cX6_start 1 = .ok (.invokevirtual 80, 3) := by decide +kernel
theorem dX6_start_4 : decode cX6_start 4 = .ok (.getfield 135, 3) := by decide +kernel
theorem dX6_start_7 : decode cX6_start 7 = .ok (.ifCond .eq 5, 3) := by decide +kernel
theorem dX6_start_10 : decode cX6_start 10 = .ok (.iconst 0, 1) := by decide +kernel
theorem dX6_start_11 : decode cX6_start 11 = .ok (.ireturn, 1) := by decide +kernel
theorem dX6_start_12 : decode cX6_start 12 = .ok (.aload_n 0, 1) := by decide +kernel
theorem dX6_start_13 : decode cX6_start 13 = .ok (.invokevirtual 98, 3) := by decide +kernel
theorem dX6_start_16 : decode cX6_start 16 = .ok (.invokevirtual 139, 3) := by decide +kernel
theorem dX6_start_19 : decode cX6_start 19 = .ok (.iconst 1, 1) := by decide +kernel
theorem dX6_start_20 : decode cX6_start 20 = .ok (.ireturn, 1) := by decide +kernel
theorem dX6_work_0 : decode cX6_work 0 = .ok (.aload_n 0, 1) := by decide +kernel
theorem dX6_work_1 : decode cX6_work 1 = .ok (.invokevirtual 80, 3) := by decide +kernel
theorem dX6_work_4 : decode cX6_work 4 = .ok (.getfield 135, 3) := by decide +kernel
theorem dX6_work_7 : decode cX6_work 7 = .ok (.ifCond .eq 15, 3) := by decide +kernel
theorem dX6_work_10 : decode cX6_work 10 = .ok (.iload_n 1, 1) := by decide +kernel
theorem dX6_work_11 : decode cX6_work 11 = .ok (.iconst 1, 1) := by decide +kernel
theorem dX6_work_12 : decode cX6_work 12 = .ok (.if_icmp .lt 10, 3) := by decide +kernel
theorem dX6_work_15 : decode cX6_work 15 = .ok (.iload_n 1, 1) := by decide +kernel
theorem dX6_work_16 : decode cX6_work 16 = .ok (.sipush 500, 3) := by decide +kernel
theorem dX6_work_19 : decode cX6_work 19 = .ok (.if_icmp .le 5, 3) := by decide +kernel
theorem dX6_work_22 : decode cX6_work 22 = .ok (.iconst (-1), 1) := by decide +kernel
theorem dX6_work_23 : decode cX6_work 23 = .ok (.ireturn, 1) := by decide +kernel
theorem dX6_work_24 : decode cX6_work 24 = .ok (.aload_n 0, 1) := by decide +kernel
theorem dX6_work_25 : decode cX6_work 25 = .ok (.invokevirtual 98, 3) := by decide +kernel
theorem dX6_work_28 : decode cX6_work 28 = .ok (.iload_n 1, 1) := by decide +kernel
theorem dX6_work_29 : decode cX6_work 29 = .ok (.invokevirtual 142, 3) := by decide +kernel
theorem dX6_work_32 : decode cX6_work 32 = .ok (.ireturn, 1) := by decide +kernel
theorem dX6_turn_0 : decode cX6_turn 0 = .ok (.iload_n 1, 1) := by decide +kernel
theorem dX6_turn_1 : decode cX6_turn 1 = .ok (.ifCond .lt 12, 3) := by decide +kernel
theorem dX6_turn_4 : decode cX6_turn 4 = .ok (.iload_n 1, 1) := by decide +kernel
theorem dX6_turn_5 : decode cX6_turn 5 = .ok (.iconst 4, 1) := by decide +kernel
theorem dX6_turn_6 : decode cX6_turn 6 = .ok (.if_icmp .ge 7, 3) := by decide +kernel
theorem dX6_turn_9 : decode cX6_turn 9 = .ok (.iload_n 2, 1) := by decide +kernel
theorem dX6_turn_10 : decode cX6_turn 10 = .ok (.ifCond .ge 5, 3) := by decide +kernel
theorem dX6_turn_13 : decode cX6_turn 13 = .ok (.iconst (-1), 1) := by decide +kernel
theorem dX6_turn_14 : decode cX6_turn 14 = .ok (.ireturn, 1) := by decide +kernel
theorem dX6_turn_15 : decode cX6_turn 15 = .ok (.iload_n 1, 1) := by decide +kernel
theorem dX6_turn_16 : decode cX6_turn 16 = .ok (.ifCond .eq 8, 3) := by decide +kernel
theorem dX6_turn_19 : decode cX6_turn 19 = .ok (.iload_n 1, 1) := by decide +kernel
theorem dX6_turn_20 : decode cX6_turn 20 = .ok (.iconst 1, 1) := by decide +kernel
theorem dX6_turn_21 : decode cX6_turn 21 = .ok (.if_icmp .ne 7, 3) := by decide +kernel
theorem dX6_turn_24 : decode cX6_turn 24 = .ok (.iconst 3, 1) := by decide +kernel
theorem dX6_turn_25 : decode cX6_turn 25 = .ok (.goto 5, 3) := by decide +kernel
theorem dX6_turn_28 : decode cX6_turn 28 = .ok (.bipush 16, 2) := by decide +kernel
theorem dX6_turn_30 : decode cX6_turn 30 = .ok (.istore_n 3, 1) := by decide +kernel
theorem dX6_turn_31 : decode cX6_turn 31 = .ok (.iload_n 2, 1) := by decide +kernel
theorem dX6_turn_32 : decode cX6_turn 32 = .ok (.iload_n 3, 1) := by decide +kernel
theorem dX6_turn_33 : decode cX6_turn 33 = .ok (.if_icmp .gt 17, 3) := by decide +kernel
theorem dX6_turn_36 : decode cX6_turn 36 = .ok (.iload_n 1, 1) := by decide +kernel
theorem dX6_turn_37 : decode cX6_turn 37 = .ok (.ifCond .ne 15, 3) := by decide +kernel
theorem dX6_turn_40 : decode cX6_turn 40 = .ok (.aload_n 0, 1) := by decide +kernel
theorem dX6_turn_41 : decode cX6_turn 41 = .ok (.invokevirtual 80, 3) := by decide +kernel
theorem dX6_turn_44 : decode cX6_turn 44 = .ok (.getfield 135, 3) := by decide +kernel
theorem dX6_turn_47 : decode cX6_turn 47 = .ok (.ifCond .eq 5, 3) := by decide +kernel
theorem dX6_turn_50 : decode cX6_turn 50 = .ok (.iconst (-1), 1) := by decide +kernel
theorem dX6_turn_51 : decode cX6_turn 51 = .ok (.ireturn, 1) := by decide +kernel
theorem dX6_turn_52 : decode cX6_turn 52 = .ok (.aload_n 0, 1) := by decide +kernel
theorem dX6_turn_53 : decode cX6_turn 53 = .ok (.invokevirtual 98, 3) := by decide +kernel
theorem dX6_turn_56 : decode cX6_turn 56 = .ok (.astore 4, 2) := by decide +kernel
theorem dX6_turn_58 : decode cX6_turn 58 = .ok (.aload 4, 2) := by decide +kernel
theorem dX6_turn_60 : decode cX6_turn 60 = .ok (.getfield 145, 3) := by decide +kernel
theorem dX6_turn_63 : decode cX6_turn 63 = .ok (.iload_n 1, 1) := by decide +kernel
theorem dX6_turn_64 : decode cX6_turn 64 = .ok (.iaload, 1) := by decide +kernel
theorem dX6_turn_65 : decode cX6_turn 65 = .ok (.istore 5, 2) := by decide +kernel
theorem dX6_turn_67 : decode cX6_turn 67 = .ok (.aload 4, 2) := by decide +kernel
theorem dX6_turn_69 : decode cX6_turn 69 = .ok (.getfield 145, 3) := by decide +kernel
theorem dX6_turn_72 : decode cX6_turn 72 = .ok (.iload_n 1, 1) := by decide +kernel
theorem dX6_turn_73 : decode cX6_turn 73 = .ok (.iload_n 2, 1) := by decide +kernel
theorem dX6_turn_74 : decode cX6_turn 74 = .ok (.iastore, 1) := by decide +kernel
theorem dX6_turn_75 : decode cX6_turn 75 = .ok (.iload 5, 2) := by decide +kernel
theorem dX6_turn_77 : decode cX6_turn 77 = .ok (.ireturn, 1) := by decide +kernel
theorem dX6_feed_0 : decode cX6_feed 0 = .ok (.aload_n 0, 1) := by decide +kernel
theorem dX6_feed_1 : decode cX6_feed 1 = .ok (.getfield 51, 3) := by decide +kernel
theorem dX6_feed_4 : decode cX6_feed 4 = .ok (.bipush 20, 2) := by decide +kernel
theorem dX6_feed_6 : decode cX6_feed 6 = .ok (.iadd, 1) := by decide +kernel
theorem dX6_feed_7 : decode cX6_feed 7 = .ok (.sipush 400, 3) := by decide +kernel
theorem dX6_feed_10 : decode cX6_feed 10 = .ok (.if_icmp .le 5, 3) := by decide +kernel
theorem dX6_feed_13 : decode cX6_feed 13 = .ok (.iconst (-1), 1) := by decide +kernel
theorem dX6_feed_14 : decode cX6_feed 14 = .ok (.ireturn, 1) := by decide +kernel
theorem dX6_feed_15 : decode cX6_feed 15 = .ok (.aload_n 0, 1) := by decide +kernel
theorem dX6_feed_16 : decode cX6_feed 16 = .ok (.iload_n 1, 1) := by decide +kernel
theorem dX6_feed_17 : decode cX6_feed 17 = .ok (.invokevirtual 148, 3) := by decide +kernel
theorem dX6_feed_20 : decode cX6_feed 20 = .ok (.aload_n 0, 1) := by decide +kernel
theorem dX6_feed_21 : decode cX6_feed 21 = .ok (.iload_n 2, 1) := by decide +kernel
theorem dX6_feed_22 : decode cX6_feed 22 = .ok (.invokevirtual 148, 3) := by decide +kernel
theorem dX6_feed_25 : decode cX6_feed 25 = .ok (.aload_n 0, 1) := by decide +kernel
theorem dX6_feed_26 : decode cX6_feed 26 = .ok (.iload_n 3, 1) := by decide +kernel
theorem dX6_feed_27 : decode cX6_feed 27 = .ok (.invokevirtual 148, 3) := by decide +kernel
theorem dX6_feed_30 : decode cX6_feed 30 = .ok (.aload_n 0, 1) := by decide +kernel
theorem dX6_feed_31 : decode cX6_feed 31 = .ok (.iload 4, 2) := by decide +kernel
theorem dX6_feed_33 : decode cX6_feed 33 = .ok (.invokevirtual 148, 3) := by decide +kernel
theorem dX6_feed_36 : decode cX6_feed 36 = .ok (.aload_n 0, 1) := by decide +kernel
theorem dX6_feed_37 : decode cX6_feed 37 = .ok (.iload 5, 2) := by decide +kernel
theorem dX6_feed_39 : decode cX6_feed 39 = .ok (.invokevirtual 148, 3) := by decide +kernel
theorem dX6_feed_42 : decode cX6_feed 42 = .ok (.aload_n 0, 1) := by decide +kernel
theorem dX6_feed_43 : decode cX6_feed 43 = .ok (.getfield 51, 3) := by decide +kernel
theorem dX6_feed_46 : decode cX6_feed 46 = .ok (.ireturn, 1) := by decide +kernel
theorem dX6_cut_0 : decode cX6_cut 0 = .ok (.iload_n 1, 1) := by decide +kernel
theorem dX6_cut_1 : decode cX6_cut 1 = .ok (.ifCond .lt 11, 3) := by decide +kernel
theorem dX6_cut_4 : decode cX6_cut 4 = .ok (.iload_n 1, 1) := by decide +kernel
theorem dX6_cut_5 : decode cX6_cut 5 = .ok (.aload_n 0, 1) := by decide +kernel
theorem dX6_cut_6 : decode cX6_cut 6 = .ok (.getfield 51, 3) := by decide +kernel
theorem dX6_cut_9 : decode cX6_cut 9 = .ok (.if_icmp .le 5, 3) := by decide +kernel
theorem dX6_cut_12 : decode cX6_cut 12 = .ok (.iconst (-1), 1) := by decide +kernel
theorem dX6_cut_13 : decode cX6_cut 13 = .ok (.ireturn, 1) := by decide +kernel
theorem dX6_cut_14 : decode cX6_cut 14 = .ok (.aload_n 0, 1) := by decide +kernel
theorem dX6_cut_15 : decode cX6_cut 15 = .ok (.iload_n 1, 1) := by decide +kernel
theorem dX6_cut_16 : decode cX6_cut 16 = .ok (.putfield 51, 3) := by decide +kernel
theorem dX6_cut_19 : decode cX6_cut 19 = .ok (.iload_n 1, 1) := by decide +kernel
theorem dX6_cut_20 : decode cX6_cut 20 = .ok (.ireturn, 1) := by decide +kernel
theorem dX6_program_0 : decode cX6_program 0 = .ok (.aload_n 0, 1) := by decide +kernel
theorem dX6_program_1 : decode cX6_program 1 = .ok (.getfield 51, 3) := by decide +kernel
theorem dX6_program_4 : decode cX6_program 4 = .ok (.istore_n 1, 1) := by decide +kernel
theorem dX6_program_5 : decode cX6_program 5 = .ok (.aload_n 0, 1) := by decide +kernel
theorem dX6_program_6 : decode cX6_program 6 = .ok (.iconst 0, 1) := by decide +kernel
theorem dX6_program_7 : decode cX6_program 7 = .ok (.putfield 51, 3) := by decide +kernel
theorem dX6_program_10 : decode cX6_program 10 = .ok (.aload_n 0, 1) := by decide +kernel
theorem dX6_program_11 : decode cX6_program 11 = .ok (.getfield 57, 3) := by decide +kernel
theorem dX6_program_14 : decode cX6_program 14 = .ok (.aload_n 0, 1) := by decide +kernel
theorem dX6_program_15 : decode cX6_program 15 = .ok (.getfield 48, 3) := by decide +kernel
theorem dX6_program_18 : decode cX6_program 18 = .ok (.iload_n 1, 1) := by decide +kernel
theorem dX6_program_19 : decode cX6_program 19 = .ok (.aload_n 0, 1) := by decide +kernel
theorem dX6_program_20 : decode cX6_program 20 = .ok (.getfield 68, 3) := by decide +kernel
theorem dX6_program_23 : decode cX6_program 23 = .ok (.invokevirtual 151, 3) := by decide +kernel
theorem dX6_program_26 : decode cX6_program 26 = .ok (.aload_n 0, 1) := by decide +kernel
theorem dX6_program_27 : decode cX6_program 27 = .ok (.getfield 57, 3) := by decide +kernel
theorem dX6_program_30 : decode cX6_program 30 = .ok (.getfield 155, 3) := by decide +kernel
theorem dX6_program_33 : decode cX6_program 33 = .ok (.ifCond .eq 5, 3) := by decide +kernel
theorem dX6_program_36 : decode cX6_program 36 = .ok (.iconst (-1), 1) := by decide +kernel
theorem dX6_program_37 : decode cX6_program 37 = .ok (.ireturn, 1) := by decide +kernel
theorem dX6_program_38 : decode cX6_program 38 = .ok (.aload_n 0, 1) := by decide +kernel
theorem dX6_program_39 : decode cX6_program 39 = .ok (.getfield 64, 3) := by decide +kernel
theorem dX6_program_42 : decode cX6_program 42 = .ok (.astore_n 2, 1) := by decide +kernel
theorem dX6_program_43 : decode cX6_program 43 = .ok (.aload_n 0, 1) := by decide +kernel
theorem dX6_program_44 : decode cX6_program 44 = .ok (.aload_n 0, 1) := by decide +kernel
theorem dX6_program_45 : decode cX6_program 45 = .ok (.getfield 68, 3) := by decide +kernel
theorem dX6_program_48 : decode cX6_program 48 = .ok (.putfield 64, 3) := by decide +kernel
theorem dX6_program_51 : decode cX6_program 51 = .ok (.aload_n 0, 1) := by decide +kernel
theorem dX6_program_52 : decode cX6_program 52 = .ok (.aload_n 2, 1) := by decide +kernel
theorem dX6_program_53 : decode cX6_program 53 = .ok (.putfield 68, 3) := by decide +kernel
theorem dX6_program_56 : decode cX6_program 56 = .ok (.aload_n 0, 1) := by decide +kernel
theorem dX6_program_57 : decode cX6_program 57 = .ok (.getfield 64, 3) := by decide +kernel
theorem dX6_program_60 : decode cX6_program 60 = .ok (.getfield 158, 3) := by decide +kernel
theorem dX6_program_63 : decode cX6_program 63 = .ok (.ireturn, 1) := by decide +kernel
theorem dX6_fault_0 : decode cX6_fault 0 = .ok (.iload_n 1, 1) := by decide +kernel
theorem dX6_fault_1 : decode cX6_fault 1 = .ok (.ifCond .ne 11, 3) := by decide +kernel
theorem dX6_fault_4 : decode cX6_fault 4 = .ok (.aload_n 0, 1) := by decide +kernel
theorem dX6_fault_5 : decode cX6_fault 5 = .ok (.getfield 57, 3) := by decide +kernel
theorem dX6_fault_8 : decode cX6_fault 8 = .ok (.getfield 155, 3) := by decide +kernel
theorem dX6_fault_11 : decode cX6_fault 11 = .ok (.ireturn, 1) := by decide +kernel
theorem dX6_fault_12 : decode cX6_fault 12 = .ok (.iload_n 1, 1) := by decide +kernel
theorem dX6_fault_13 : decode cX6_fault 13 = .ok (.iconst 1, 1) := by decide +kernel
theorem dX6_fault_14 : decode cX6_fault 14 = .ok (.if_icmp .ne 13, 3) := by decide +kernel
theorem dX6_fault_17 : decode cX6_fault 17 = .ok (.aload_n 0, 1) := by decide +kernel
theorem dX6_fault_18 : decode cX6_fault 18 = .ok (.getfield 57, 3) := by decide +kernel
theorem dX6_fault_21 : decode cX6_fault 21 = .ok (.getfield 161, 3) := by decide +kernel
theorem dX6_fault_24 : decode cX6_fault 24 = .ok (.goto 4, 3) := by decide +kernel
theorem dX6_fault_27 : decode cX6_fault 27 = .ok (.iconst (-1), 1) := by decide +kernel
theorem dX6_fault_28 : decode cX6_fault 28 = .ok (.ireturn, 1) := by decide +kernel
theorem dX6_run_0 : decode cX6_run 0 = .ok (.aload_n 0, 1) := by decide +kernel
theorem dX6_run_1 : decode cX6_run 1 = .ok (.getfield 64, 3) := by decide +kernel
theorem dX6_run_4 : decode cX6_run 4 = .ok (.getfield 158, 3) := by decide +kernel
theorem dX6_run_7 : decode cX6_run 7 = .ok (.ifCond .ne 5, 3) := by decide +kernel
theorem dX6_run_10 : decode cX6_run 10 = .ok (.iconst (-1), 1) := by decide +kernel
theorem dX6_run_11 : decode cX6_run 11 = .ok (.ireturn, 1) := by decide +kernel
theorem dX6_run_12 : decode cX6_run 12 = .ok (.aload_n 0, 1) := by decide +kernel
theorem dX6_run_13 : decode cX6_run 13 = .ok (.getfield 76, 3) := by decide +kernel
theorem dX6_run_16 : decode cX6_run 16 = .ok (.aload_n 0, 1) := by decide +kernel
theorem dX6_run_17 : decode cX6_run 17 = .ok (.invokevirtual 98, 3) := by decide +kernel
theorem dX6_run_20 : decode cX6_run 20 = .ok (.aload_n 0, 1) := by decide +kernel
theorem dX6_run_21 : decode cX6_run 21 = .ok (.getfield 64, 3) := by decide +kernel
theorem dX6_run_24 : decode cX6_run 24 = .ok (.invokevirtual 164, 3) := by decide +kernel
theorem dX6_run_27 : decode cX6_run 27 = .ok (.aload_n 0, 1) := by decide +kernel
theorem dX6_run_28 : decode cX6_run 28 = .ok (.getfield 76, 3) := by decide +kernel
theorem dX6_run_31 : decode cX6_run 31 = .ok (.iconst 0, 1) := by decide +kernel
theorem dX6_run_32 : decode cX6_run 32 = .ok (.aload_n 0, 1) := by decide +kernel
theorem dX6_run_33 : decode cX6_run 33 = .ok (.getfield 64, 3) := by decide +kernel
theorem dX6_run_36 : decode cX6_run 36 = .ok (.getfield 158, 3) := by decide +kernel
theorem dX6_run_39 : decode cX6_run 39 = .ok (.iconst 0, 1) := by decide +kernel
theorem dX6_run_40 : decode cX6_run 40 = .ok (.invokevirtual 167, 3) := by decide +kernel
theorem dX6_run_43 : decode cX6_run 43 = .ok (.aload_n 0, 1) := by decide +kernel
theorem dX6_run_44 : decode cX6_run 44 = .ok (.getfield 76, 3) := by decide +kernel
theorem dX6_run_47 : decode cX6_run 47 = .ok (.getfield 171, 3) := by decide +kernel
theorem dX6_run_50 : decode cX6_run 50 = .ok (.ireturn, 1) := by decide +kernel
theorem dX6_runBy_0 : decode cX6_runBy 0 = .ok (.iload_n 1, 1) := by decide +kernel
theorem dX6_runBy_1 : decode cX6_runBy 1 = .ok (.ifCond .lt 28, 3) := by decide +kernel
theorem dX6_runBy_4 : decode cX6_runBy 4 = .ok (.iload_n 1, 1) := by decide +kernel
theorem dX6_runBy_5 : decode cX6_runBy 5 = .ok (.iconst 3, 1) := by decide +kernel
theorem dX6_runBy_6 : decode cX6_runBy 6 = .ok (.if_icmp .gt 23, 3) := by decide +kernel
theorem dX6_runBy_9 : decode cX6_runBy 9 = .ok (.iload_n 2, 1) := by decide +kernel
theorem dX6_runBy_10 : decode cX6_runBy 10 = .ok (.ifCond .lt 19, 3) := by decide +kernel
theorem dX6_runBy_13 : decode cX6_runBy 13 = .ok (.iload_n 2, 1) := by decide +kernel
theorem dX6_runBy_14 : decode cX6_runBy 14 = .ok (.bipush 6, 2) := by decide +kernel
theorem dX6_runBy_16 : decode cX6_runBy 16 = .ok (.if_icmp .gt 13, 3) := by decide +kernel
theorem dX6_runBy_19 : decode cX6_runBy 19 = .ok (.aload_n 0, 1) := by decide +kernel
theorem dX6_runBy_20 : decode cX6_runBy 20 = .ok (.getfield 64, 3) := by decide +kernel
theorem dX6_runBy_23 : decode cX6_runBy 23 = .ok (.getfield 158, 3) := by decide +kernel
theorem dX6_runBy_26 : decode cX6_runBy 26 = .ok (.ifCond .ne 5, 3) := by decide +kernel
theorem dX6_runBy_29 : decode cX6_runBy 29 = .ok (.iconst (-1), 1) := by decide +kernel
theorem dX6_runBy_30 : decode cX6_runBy 30 = .ok (.ireturn, 1) := by decide +kernel
theorem dX6_runBy_31 : decode cX6_runBy 31 = .ok (.aload_n 0, 1) := by decide +kernel
theorem dX6_runBy_32 : decode cX6_runBy 32 = .ok (.iload_n 1, 1) := by decide +kernel
theorem dX6_runBy_33 : decode cX6_runBy 33 = .ok (.aload_n 0, 1) := by decide +kernel
theorem dX6_runBy_34 : decode cX6_runBy 34 = .ok (.invokevirtual 80, 3) := by decide +kernel
theorem dX6_runBy_37 : decode cX6_runBy 37 = .ok (.getfield 145, 3) := by decide +kernel
theorem dX6_runBy_40 : decode cX6_runBy 40 = .ok (.iconst 2, 1) := by decide +kernel
theorem dX6_runBy_41 : decode cX6_runBy 41 = .ok (.iaload, 1) := by decide +kernel
theorem dX6_runBy_42 : decode cX6_runBy 42 = .ok (.invokevirtual 174, 3) := by decide +kernel
theorem dX6_runBy_45 : decode cX6_runBy 45 = .ok (.iload_n 2, 1) := by decide +kernel
theorem dX6_runBy_46 : decode cX6_runBy 46 = .ok (.tableswitch 78 0 5 #[38, 46, 52, 58, 64, 70], 38) := by decide +kernel
theorem dX6_runBy_84 : decode cX6_runBy 84 = .ok (.aload_n 0, 1) := by decide +kernel
theorem dX6_runBy_85 : decode cX6_runBy 85 = .ok (.getfield 76, 3) := by decide +kernel
theorem dX6_runBy_88 : decode cX6_runBy 88 = .ok (.getfield 171, 3) := by decide +kernel
theorem dX6_runBy_91 : decode cX6_runBy 91 = .ok (.ireturn, 1) := by decide +kernel
theorem dX6_runBy_92 : decode cX6_runBy 92 = .ok (.aload_n 0, 1) := by decide +kernel
theorem dX6_runBy_93 : decode cX6_runBy 93 = .ok (.iconst 1, 1) := by decide +kernel
theorem dX6_runBy_94 : decode cX6_runBy 94 = .ok (.invokevirtual 178, 3) := by decide +kernel
theorem dX6_runBy_97 : decode cX6_runBy 97 = .ok (.ireturn, 1) := by decide +kernel
theorem dX6_runBy_98 : decode cX6_runBy 98 = .ok (.aload_n 0, 1) := by decide +kernel
theorem dX6_runBy_99 : decode cX6_runBy 99 = .ok (.iconst 3, 1) := by decide +kernel
theorem dX6_runBy_100 : decode cX6_runBy 100 = .ok (.invokevirtual 178, 3) := by decide +kernel
theorem dX6_runBy_103 : decode cX6_runBy 103 = .ok (.ireturn, 1) := by decide +kernel
theorem dX6_runBy_104 : decode cX6_runBy 104 = .ok (.aload_n 0, 1) := by decide +kernel
theorem dX6_runBy_105 : decode cX6_runBy 105 = .ok (.iconst 2, 1) := by decide +kernel
theorem dX6_runBy_106 : decode cX6_runBy 106 = .ok (.invokevirtual 178, 3) := by decide +kernel
theorem dX6_runBy_109 : decode cX6_runBy 109 = .ok (.ireturn, 1) := by decide +kernel
theorem dX6_runBy_110 : decode cX6_runBy 110 = .ok (.aload_n 0, 1) := by decide +kernel
theorem dX6_runBy_111 : decode cX6_runBy 111 = .ok (.iconst 0, 1) := by decide +kernel
theorem dX6_runBy_112 : decode cX6_runBy 112 = .ok (.invokevirtual 178, 3) := by decide +kernel
theorem dX6_runBy_115 : decode cX6_runBy 115 = .ok (.ireturn, 1) := by decide +kernel
theorem dX6_runBy_116 : decode cX6_runBy 116 = .ok (.aload_n 0, 1) := by decide +kernel
theorem dX6_runBy_117 : decode cX6_runBy 117 = .ok (.getfield 33, 3) := by decide +kernel
theorem dX6_runBy_120 : decode cX6_runBy 120 = .ok (.invokevirtual 181, 3) := by decide +kernel
theorem dX6_runBy_123 : decode cX6_runBy 123 = .ok (.ireturn, 1) := by decide +kernel
theorem dX6_runBy_124 : decode cX6_runBy 124 = .ok (.aload_n 0, 1) := by decide +kernel
theorem dX6_runBy_125 : decode cX6_runBy 125 = .ok (.getfield 44, 3) := by decide +kernel
theorem dX6_runBy_128 : decode cX6_runBy 128 = .ok (.aload_n 0, 1) := by decide +kernel
theorem dX6_runBy_129 : decode cX6_runBy 129 = .ok (.getfield 33, 3) := by decide +kernel
theorem dX6_runBy_132 : decode cX6_runBy 132 = .ok (.iconst 0, 1) := by decide +kernel
theorem dX6_runBy_133 : decode cX6_runBy 133 = .ok (.bipush 6, 2) := by decide +kernel
theorem dX6_runBy_135 : decode cX6_runBy 135 = .ok (.iconst (-1), 1) := by decide +kernel
theorem dX6_runBy_136 : decode cX6_runBy 136 = .ok (.invokevirtual 185, 3) := by decide +kernel
theorem dX6_runBy_139 : decode cX6_runBy 139 = .ok (.aload_n 0, 1) := by decide +kernel
theorem dX6_runBy_140 : decode cX6_runBy 140 = .ok (.getfield 44, 3) := by decide +kernel
theorem dX6_runBy_143 : decode cX6_runBy 143 = .ok (.getfield 189, 3) := by decide +kernel
theorem dX6_runBy_146 : decode cX6_runBy 146 = .ok (.ireturn, 1) := by decide +kernel
theorem dX6_cheapest_0 : decode cX6_cheapest 0 = .ok (.iload_n 1, 1) := by decide +kernel
theorem dX6_cheapest_1 : decode cX6_cheapest 1 = .ok (.ifCond .lt 18, 3) := by decide +kernel
theorem dX6_cheapest_4 : decode cX6_cheapest 4 = .ok (.iload_n 1, 1) := by decide +kernel
theorem dX6_cheapest_5 : decode cX6_cheapest 5 = .ok (.iconst 1, 1) := by decide +kernel
theorem dX6_cheapest_6 : decode cX6_cheapest 6 = .ok (.if_icmp .gt 13, 3) := by decide +kernel
theorem dX6_cheapest_9 : decode cX6_cheapest 9 = .ok (.aload_n 0, 1) := by decide +kernel
theorem dX6_cheapest_10 : decode cX6_cheapest 10 = .ok (.getfield 64, 3) := by decide +kernel
theorem dX6_cheapest_13 : decode cX6_cheapest 13 = .ok (.getfield 158, 3) := by decide +kernel
theorem dX6_cheapest_16 : decode cX6_cheapest 16 = .ok (.ifCond .ne 5, 3) := by decide +kernel
theorem dX6_cheapest_19 : decode cX6_cheapest 19 = .ok (.iconst (-1), 1) := by decide +kernel
theorem dX6_cheapest_20 : decode cX6_cheapest 20 = .ok (.ireturn, 1) := by decide +kernel
theorem dX6_cheapest_21 : decode cX6_cheapest 21 = .ok (.iconst (-1), 1) := by decide +kernel
theorem dX6_cheapest_22 : decode cX6_cheapest 22 = .ok (.istore_n 2, 1) := by decide +kernel
theorem dX6_cheapest_23 : decode cX6_cheapest 23 = .ok (.iconst 0, 1) := by decide +kernel
theorem dX6_cheapest_24 : decode cX6_cheapest 24 = .ok (.istore_n 3, 1) := by decide +kernel
theorem dX6_cheapest_25 : decode cX6_cheapest 25 = .ok (.iconst 0, 1) := by decide +kernel
theorem dX6_cheapest_26 : decode cX6_cheapest 26 = .ok (.istore 4, 2) := by decide +kernel
theorem dX6_cheapest_28 : decode cX6_cheapest 28 = .ok (.iload 4, 2) := by decide +kernel
theorem dX6_cheapest_30 : decode cX6_cheapest 30 = .ok (.iconst 2, 1) := by decide +kernel
theorem dX6_cheapest_31 : decode cX6_cheapest 31 = .ok (.if_icmp .gt 48, 3) := by decide +kernel
theorem dX6_cheapest_34 : decode cX6_cheapest 34 = .ok (.aload_n 0, 1) := by decide +kernel
theorem dX6_cheapest_35 : decode cX6_cheapest 35 = .ok (.iload 4, 2) := by decide +kernel
theorem dX6_cheapest_37 : decode cX6_cheapest 37 = .ok (.aload_n 0, 1) := by decide +kernel
theorem dX6_cheapest_38 : decode cX6_cheapest 38 = .ok (.invokevirtual 80, 3) := by decide +kernel
theorem dX6_cheapest_41 : decode cX6_cheapest 41 = .ok (.getfield 145, 3) := by decide +kernel
theorem dX6_cheapest_44 : decode cX6_cheapest 44 = .ok (.iconst 2, 1) := by decide +kernel
theorem dX6_cheapest_45 : decode cX6_cheapest 45 = .ok (.iaload, 1) := by decide +kernel
theorem dX6_cheapest_46 : decode cX6_cheapest 46 = .ok (.invokevirtual 174, 3) := by decide +kernel
theorem dX6_cheapest_49 : decode cX6_cheapest 49 = .ok (.aload_n 0, 1) := by decide +kernel
theorem dX6_cheapest_50 : decode cX6_cheapest 50 = .ok (.iconst 1, 1) := by decide +kernel
theorem dX6_cheapest_51 : decode cX6_cheapest 51 = .ok (.invokevirtual 178, 3) := by decide +kernel
theorem dX6_cheapest_54 : decode cX6_cheapest 54 = .ok (.istore 5, 2) := by decide +kernel
theorem dX6_cheapest_56 : decode cX6_cheapest 56 = .ok (.iload_n 2, 1) := by decide +kernel
theorem dX6_cheapest_57 : decode cX6_cheapest 57 = .ok (.iconst (-1), 1) := by decide +kernel
theorem dX6_cheapest_58 : decode cX6_cheapest 58 = .ok (.if_icmp .eq 9, 3) := by decide +kernel
theorem dX6_cheapest_61 : decode cX6_cheapest 61 = .ok (.iload 5, 2) := by decide +kernel
theorem dX6_cheapest_63 : decode cX6_cheapest 63 = .ok (.iload_n 3, 1) := by decide +kernel
theorem dX6_cheapest_64 : decode cX6_cheapest 64 = .ok (.if_icmp .ge 9, 3) := by decide +kernel
theorem dX6_cheapest_67 : decode cX6_cheapest 67 = .ok (.iload 4, 2) := by decide +kernel
theorem dX6_cheapest_69 : decode cX6_cheapest 69 = .ok (.istore_n 2, 1) := by decide +kernel
theorem dX6_cheapest_70 : decode cX6_cheapest 70 = .ok (.iload 5, 2) := by decide +kernel
theorem dX6_cheapest_72 : decode cX6_cheapest 72 = .ok (.istore_n 3, 1) := by decide +kernel
theorem dX6_cheapest_73 : decode cX6_cheapest 73 = .ok (.iinc 4 1, 3) := by decide +kernel
theorem dX6_cheapest_76 : decode cX6_cheapest 76 = .ok (.goto (-48), 3) := by decide +kernel
theorem dX6_cheapest_79 : decode cX6_cheapest 79 = .ok (.iload_n 1, 1) := by decide +kernel
theorem dX6_cheapest_80 : decode cX6_cheapest 80 = .ok (.ifCond .ne 7, 3) := by decide +kernel
theorem dX6_cheapest_83 : decode cX6_cheapest 83 = .ok (.iload_n 2, 1) := by decide +kernel
theorem dX6_cheapest_84 : decode cX6_cheapest 84 = .ok (.goto 4, 3) := by decide +kernel
theorem dX6_cheapest_87 : decode cX6_cheapest 87 = .ok (.iload_n 3, 1) := by decide +kernel
theorem dX6_cheapest_88 : decode cX6_cheapest 88 = .ok (.ireturn, 1) := by decide +kernel
theorem dX6_suits_0 : decode cX6_suits 0 = .ok (.aload_n 0, 1) := by decide +kernel
theorem dX6_suits_1 : decode cX6_suits 1 = .ok (.getfield 64, 3) := by decide +kernel
theorem dX6_suits_4 : decode cX6_suits 4 = .ok (.getfield 158, 3) := by decide +kernel
theorem dX6_suits_7 : decode cX6_suits 7 = .ok (.ifCond .ne 5, 3) := by decide +kernel
theorem dX6_suits_10 : decode cX6_suits 10 = .ok (.iconst (-1), 1) := by decide +kernel
theorem dX6_suits_11 : decode cX6_suits 11 = .ok (.ireturn, 1) := by decide +kernel
theorem dX6_suits_12 : decode cX6_suits 12 = .ok (.iconst 0, 1) := by decide +kernel
theorem dX6_suits_13 : decode cX6_suits 13 = .ok (.istore_n 1, 1) := by decide +kernel
theorem dX6_suits_14 : decode cX6_suits 14 = .ok (.iload_n 1, 1) := by decide +kernel
theorem dX6_suits_15 : decode cX6_suits 15 = .ok (.bipush 16, 2) := by decide +kernel
theorem dX6_suits_17 : decode cX6_suits 17 = .ok (.if_icmp .gt 33, 3) := by decide +kernel
theorem dX6_suits_20 : decode cX6_suits 20 = .ok (.aload_n 0, 1) := by decide +kernel
theorem dX6_suits_21 : decode cX6_suits 21 = .ok (.aload_n 0, 1) := by decide +kernel
theorem dX6_suits_22 : decode cX6_suits 22 = .ok (.invokevirtual 80, 3) := by decide +kernel
theorem dX6_suits_25 : decode cX6_suits 25 = .ok (.getfield 145, 3) := by decide +kernel
theorem dX6_suits_28 : decode cX6_suits 28 = .ok (.iconst 0, 1) := by decide +kernel
theorem dX6_suits_29 : decode cX6_suits 29 = .ok (.iaload, 1) := by decide +kernel
theorem dX6_suits_30 : decode cX6_suits 30 = .ok (.iload_n 1, 1) := by decide +kernel
theorem dX6_suits_31 : decode cX6_suits 31 = .ok (.invokevirtual 174, 3) := by decide +kernel
theorem dX6_suits_34 : decode cX6_suits 34 = .ok (.aload_n 0, 1) := by decide +kernel
theorem dX6_suits_35 : decode cX6_suits 35 = .ok (.iconst 2, 1) := by decide +kernel
theorem dX6_suits_36 : decode cX6_suits 36 = .ok (.invokevirtual 178, 3) := by decide +kernel
theorem dX6_suits_39 : decode cX6_suits 39 = .ok (.ifCond .ne 5, 3) := by decide +kernel
theorem dX6_suits_42 : decode cX6_suits 42 = .ok (.iload_n 1, 1) := by decide +kernel
theorem dX6_suits_43 : decode cX6_suits 43 = .ok (.ireturn, 1) := by decide +kernel
theorem dX6_suits_44 : decode cX6_suits 44 = .ok (.iinc 1 1, 3) := by decide +kernel
theorem dX6_suits_47 : decode cX6_suits 47 = .ok (.goto (-33), 3) := by decide +kernel
theorem dX6_suits_50 : decode cX6_suits 50 = .ok (.iconst (-1), 1) := by decide +kernel
theorem dX6_suits_51 : decode cX6_suits 51 = .ok (.ireturn, 1) := by decide +kernel
theorem dX6_undo_0 : decode cX6_undo 0 = .ok (.aload_n 0, 1) := by decide +kernel
theorem dX6_undo_1 : decode cX6_undo 1 = .ok (.getfield 19, 3) := by decide +kernel
theorem dX6_undo_4 : decode cX6_undo 4 = .ok (.ifCond .ne 5, 3) := by decide +kernel
