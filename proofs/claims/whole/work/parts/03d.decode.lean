theorem dX6_undo_7 : decode cX6_undo 7 = .ok (.iconst 0, 1) := by decide +kernel
theorem dX6_undo_8 : decode cX6_undo 8 = .ok (.ireturn, 1) := by decide +kernel
theorem dX6_undo_9 : decode cX6_undo 9 = .ok (.aload_n 0, 1) := by decide +kernel
theorem dX6_undo_10 : decode cX6_undo 10 = .ok (.aload_n 0, 1) := by decide +kernel
theorem dX6_undo_11 : decode cX6_undo 11 = .ok (.getfield 15, 3) := by decide +kernel
theorem dX6_undo_14 : decode cX6_undo 14 = .ok (.bipush 20, 2) := by decide +kernel
theorem dX6_undo_16 : decode cX6_undo 16 = .ok (.iadd, 1) := by decide +kernel
theorem dX6_undo_17 : decode cX6_undo 17 = .ok (.aload_n 0, 1) := by decide +kernel
theorem dX6_undo_18 : decode cX6_undo 18 = .ok (.getfield 11, 3) := by decide +kernel
theorem dX6_undo_21 : decode cX6_undo 21 = .ok (.arraylength, 1) := by decide +kernel
theorem dX6_undo_22 : decode cX6_undo 22 = .ok (.irem, 1) := by decide +kernel
theorem dX6_undo_23 : decode cX6_undo 23 = .ok (.putfield 15, 3) := by decide +kernel
theorem dX6_undo_26 : decode cX6_undo 26 = .ok (.aload_n 0, 1) := by decide +kernel
theorem dX6_undo_27 : decode cX6_undo 27 = .ok (.dup, 1) := by decide +kernel
theorem dX6_undo_28 : decode cX6_undo 28 = .ok (.getfield 19, 3) := by decide +kernel
theorem dX6_undo_31 : decode cX6_undo 31 = .ok (.iconst 1, 1) := by decide +kernel
theorem dX6_undo_32 : decode cX6_undo 32 = .ok (.isub, 1) := by decide +kernel
theorem dX6_undo_33 : decode cX6_undo 33 = .ok (.putfield 19, 3) := by decide +kernel
theorem dX6_undo_36 : decode cX6_undo 36 = .ok (.aload_n 0, 1) := by decide +kernel
theorem dX6_undo_37 : decode cX6_undo 37 = .ok (.dup, 1) := by decide +kernel
theorem dX6_undo_38 : decode cX6_undo 38 = .ok (.getfield 22, 3) := by decide +kernel
theorem dX6_undo_41 : decode cX6_undo 41 = .ok (.iconst 1, 1) := by decide +kernel
theorem dX6_undo_42 : decode cX6_undo 42 = .ok (.iadd, 1) := by decide +kernel
theorem dX6_undo_43 : decode cX6_undo 43 = .ok (.putfield 22, 3) := by decide +kernel
theorem dX6_undo_46 : decode cX6_undo 46 = .ok (.iconst 1, 1) := by decide +kernel
theorem dX6_undo_47 : decode cX6_undo 47 = .ok (.ireturn, 1) := by decide +kernel
theorem dX6_redo_0 : decode cX6_redo 0 = .ok (.aload_n 0, 1) := by decide +kernel
theorem dX6_redo_1 : decode cX6_redo 1 = .ok (.getfield 22, 3) := by decide +kernel
theorem dX6_redo_4 : decode cX6_redo 4 = .ok (.ifCond .ne 5, 3) := by decide +kernel
theorem dX6_redo_7 : decode cX6_redo 7 = .ok (.iconst 0, 1) := by decide +kernel
theorem dX6_redo_8 : decode cX6_redo 8 = .ok (.ireturn, 1) := by decide +kernel
theorem dX6_redo_9 : decode cX6_redo 9 = .ok (.aload_n 0, 1) := by decide +kernel
theorem dX6_redo_10 : decode cX6_redo 10 = .ok (.aload_n 0, 1) := by decide +kernel
theorem dX6_redo_11 : decode cX6_redo 11 = .ok (.getfield 15, 3) := by decide +kernel
theorem dX6_redo_14 : decode cX6_redo 14 = .ok (.iconst 1, 1) := by decide +kernel
theorem dX6_redo_15 : decode cX6_redo 15 = .ok (.iadd, 1) := by decide +kernel
theorem dX6_redo_16 : decode cX6_redo 16 = .ok (.aload_n 0, 1) := by decide +kernel
theorem dX6_redo_17 : decode cX6_redo 17 = .ok (.getfield 11, 3) := by decide +kernel
theorem dX6_redo_20 : decode cX6_redo 20 = .ok (.arraylength, 1) := by decide +kernel
theorem dX6_redo_21 : decode cX6_redo 21 = .ok (.irem, 1) := by decide +kernel
theorem dX6_redo_22 : decode cX6_redo 22 = .ok (.putfield 15, 3) := by decide +kernel
theorem dX6_redo_25 : decode cX6_redo 25 = .ok (.aload_n 0, 1) := by decide +kernel
theorem dX6_redo_26 : decode cX6_redo 26 = .ok (.dup, 1) := by decide +kernel
theorem dX6_redo_27 : decode cX6_redo 27 = .ok (.getfield 19, 3) := by decide +kernel
theorem dX6_redo_30 : decode cX6_redo 30 = .ok (.iconst 1, 1) := by decide +kernel
theorem dX6_redo_31 : decode cX6_redo 31 = .ok (.iadd, 1) := by decide +kernel
theorem dX6_redo_32 : decode cX6_redo 32 = .ok (.putfield 19, 3) := by decide +kernel
theorem dX6_redo_35 : decode cX6_redo 35 = .ok (.aload_n 0, 1) := by decide +kernel
theorem dX6_redo_36 : decode cX6_redo 36 = .ok (.dup, 1) := by decide +kernel
theorem dX6_redo_37 : decode cX6_redo 37 = .ok (.getfield 22, 3) := by decide +kernel
theorem dX6_redo_40 : decode cX6_redo 40 = .ok (.iconst 1, 1) := by decide +kernel
theorem dX6_redo_41 : decode cX6_redo 41 = .ok (.isub, 1) := by decide +kernel
theorem dX6_redo_42 : decode cX6_redo 42 = .ok (.putfield 22, 3) := by decide +kernel
theorem dX6_redo_45 : decode cX6_redo 45 = .ok (.iconst 1, 1) := by decide +kernel
theorem dX6_redo_46 : decode cX6_redo 46 = .ok (.ireturn, 1) := by decide +kernel
theorem dX6_root_0 : decode cX6_root 0 = .ok (.iload_n 1, 1) := by decide +kernel
theorem dX6_root_1 : decode cX6_root 1 = .ok (.invokestatic 91, 3) := by decide +kernel
theorem dX6_root_4 : decode cX6_root 4 = .ok (.ifCond .eq 15, 3) := by decide +kernel
theorem dX6_root_7 : decode cX6_root 7 = .ok (.aload_n 0, 1) := by decide +kernel
theorem dX6_root_8 : decode cX6_root 8 = .ok (.invokevirtual 80, 3) := by decide +kernel
theorem dX6_root_11 : decode cX6_root 11 = .ok (.getfield 119, 3) := by decide +kernel
theorem dX6_root_14 : decode cX6_root 14 = .ok (.iload_n 1, 1) := by decide +kernel
theorem dX6_root_15 : decode cX6_root 15 = .ok (.iaload, 1) := by decide +kernel
theorem dX6_root_16 : decode cX6_root 16 = .ok (.goto 5, 3) := by decide +kernel
theorem dX6_root_19 : decode cX6_root 19 = .ok (.bipush (-2), 2) := by decide +kernel
theorem dX6_root_21 : decode cX6_root 21 = .ok (.ireturn, 1) := by decide +kernel
theorem dX6_weakly_0 : decode cX6_weakly 0 = .ok (.iload_n 1, 1) := by decide +kernel
theorem dX6_weakly_1 : decode cX6_weakly 1 = .ok (.invokestatic 126, 3) := by decide +kernel
theorem dX6_weakly_4 : decode cX6_weakly 4 = .ok (.ifCond .eq 15, 3) := by decide +kernel
theorem dX6_weakly_7 : decode cX6_weakly 7 = .ok (.aload_n 0, 1) := by decide +kernel
theorem dX6_weakly_8 : decode cX6_weakly 8 = .ok (.invokevirtual 80, 3) := by decide +kernel
theorem dX6_weakly_11 : decode cX6_weakly 11 = .ok (.getfield 129, 3) := by decide +kernel
theorem dX6_weakly_14 : decode cX6_weakly 14 = .ok (.iload_n 1, 1) := by decide +kernel
theorem dX6_weakly_15 : decode cX6_weakly 15 = .ok (.iaload, 1) := by decide +kernel
theorem dX6_weakly_16 : decode cX6_weakly 16 = .ok (.goto 5, 3) := by decide +kernel
theorem dX6_weakly_19 : decode cX6_weakly 19 = .ok (.bipush (-2), 2) := by decide +kernel
theorem dX6_weakly_21 : decode cX6_weakly 21 = .ok (.ireturn, 1) := by decide +kernel
theorem dX6_told_0 : decode cX6_told 0 = .ok (.iload_n 1, 1) := by decide +kernel
theorem dX6_told_1 : decode cX6_told 1 = .ok (.ifCond .lt 23, 3) := by decide +kernel
theorem dX6_told_4 : decode cX6_told 4 = .ok (.iload_n 1, 1) := by decide +kernel
theorem dX6_told_5 : decode cX6_told 5 = .ok (.aload_n 0, 1) := by decide +kernel
theorem dX6_told_6 : decode cX6_told 6 = .ok (.invokevirtual 80, 3) := by decide +kernel
theorem dX6_told_9 : decode cX6_told 9 = .ok (.invokevirtual 192, 3) := by decide +kernel
theorem dX6_told_12 : decode cX6_told 12 = .ok (.if_icmp .ge 12, 3) := by decide +kernel
theorem dX6_told_15 : decode cX6_told 15 = .ok (.iload_n 2, 1) := by decide +kernel
theorem dX6_told_16 : decode cX6_told 16 = .ok (.ifCond .lt 8, 3) := by decide +kernel
theorem dX6_told_19 : decode cX6_told 19 = .ok (.iload_n 2, 1) := by decide +kernel
theorem dX6_told_20 : decode cX6_told 20 = .ok (.iconst 3, 1) := by decide +kernel
theorem dX6_told_21 : decode cX6_told 21 = .ok (.if_icmp .lt 5, 3) := by decide +kernel
theorem dX6_told_24 : decode cX6_told 24 = .ok (.iconst (-1), 1) := by decide +kernel
theorem dX6_told_25 : decode cX6_told 25 = .ok (.ireturn, 1) := by decide +kernel
theorem dX6_told_26 : decode cX6_told 26 = .ok (.aload_n 0, 1) := by decide +kernel
theorem dX6_told_27 : decode cX6_told 27 = .ok (.invokevirtual 80, 3) := by decide +kernel
theorem dX6_told_30 : decode cX6_told 30 = .ok (.iload_n 1, 1) := by decide +kernel
theorem dX6_told_31 : decode cX6_told 31 = .ok (.iload_n 2, 1) := by decide +kernel
theorem dX6_told_32 : decode cX6_told 32 = .ok (.invokevirtual 195, 3) := by decide +kernel
theorem dX6_told_35 : decode cX6_told 35 = .ok (.ireturn, 1) := by decide +kernel
theorem dX6_image_0 : decode cX6_image 0 = .ok (.iload_n 1, 1) := by decide +kernel
theorem dX6_image_1 : decode cX6_image 1 = .ok (.ifCond .lt 8, 3) := by decide +kernel
theorem dX6_image_4 : decode cX6_image 4 = .ok (.iload_n 1, 1) := by decide +kernel
theorem dX6_image_5 : decode cX6_image 5 = .ok (.iconst 2, 1) := by decide +kernel
theorem dX6_image_6 : decode cX6_image 6 = .ok (.if_icmp .lt 5, 3) := by decide +kernel
theorem dX6_image_9 : decode cX6_image 9 = .ok (.iconst (-1), 1) := by decide +kernel
theorem dX6_image_10 : decode cX6_image 10 = .ok (.ireturn, 1) := by decide +kernel
theorem dX6_image_11 : decode cX6_image 11 = .ok (.aload_n 0, 1) := by decide +kernel
theorem dX6_image_12 : decode cX6_image 12 = .ok (.getfield 25, 3) := by decide +kernel
theorem dX6_image_15 : decode cX6_image 15 = .ok (.iload_n 1, 1) := by decide +kernel
theorem dX6_image_16 : decode cX6_image 16 = .ok (.aaload, 1) := by decide +kernel
theorem dX6_image_17 : decode cX6_image 17 = .ok (.aload_n 0, 1) := by decide +kernel
theorem dX6_image_18 : decode cX6_image 18 = .ok (.invokevirtual 80, 3) := by decide +kernel
theorem dX6_image_21 : decode cX6_image 21 = .ok (.invokevirtual 198, 3) := by decide +kernel
theorem dX6_image_24 : decode cX6_image 24 = .ok (.aload_n 0, 1) := by decide +kernel
theorem dX6_image_25 : decode cX6_image 25 = .ok (.getfield 28, 3) := by decide +kernel
theorem dX6_image_28 : decode cX6_image 28 = .ok (.iload_n 1, 1) := by decide +kernel
theorem dX6_image_29 : decode cX6_image 29 = .ok (.iconst 1, 1) := by decide +kernel
theorem dX6_image_30 : decode cX6_image 30 = .ok (.bastore, 1) := by decide +kernel
theorem dX6_image_31 : decode cX6_image 31 = .ok (.aload_n 0, 1) := by decide +kernel
theorem dX6_image_32 : decode cX6_image 32 = .ok (.invokevirtual 80, 3) := by decide +kernel
theorem dX6_image_35 : decode cX6_image 35 = .ok (.invokevirtual 181, 3) := by decide +kernel
theorem dX6_image_38 : decode cX6_image 38 = .ok (.ireturn, 1) := by decide +kernel
theorem dX6_back_0 : decode cX6_back 0 = .ok (.iload_n 1, 1) := by decide +kernel
theorem dX6_back_1 : decode cX6_back 1 = .ok (.ifCond .lt 17, 3) := by decide +kernel
theorem dX6_back_4 : decode cX6_back 4 = .ok (.iload_n 1, 1) := by decide +kernel
theorem dX6_back_5 : decode cX6_back 5 = .ok (.iconst 2, 1) := by decide +kernel
theorem dX6_back_6 : decode cX6_back 6 = .ok (.if_icmp .ge 12, 3) := by decide +kernel
theorem dX6_back_9 : decode cX6_back 9 = .ok (.aload_n 0, 1) := by decide +kernel
theorem dX6_back_10 : decode cX6_back 10 = .ok (.getfield 28, 3) := by decide +kernel
theorem dX6_back_13 : decode cX6_back 13 = .ok (.iload_n 1, 1) := by decide +kernel
theorem dX6_back_14 : decode cX6_back 14 = .ok (.baload, 1) := by decide +kernel
theorem dX6_back_15 : decode cX6_back 15 = .ok (.ifCond .ne 5, 3) := by decide +kernel
theorem dX6_back_18 : decode cX6_back 18 = .ok (.iconst (-1), 1) := by decide +kernel
theorem dX6_back_19 : decode cX6_back 19 = .ok (.ireturn, 1) := by decide +kernel
theorem dX6_back_20 : decode cX6_back 20 = .ok (.aload_n 0, 1) := by decide +kernel
theorem dX6_back_21 : decode cX6_back 21 = .ok (.invokevirtual 80, 3) := by decide +kernel
theorem dX6_back_24 : decode cX6_back 24 = .ok (.aload_n 0, 1) := by decide +kernel
theorem dX6_back_25 : decode cX6_back 25 = .ok (.getfield 25, 3) := by decide +kernel
theorem dX6_back_28 : decode cX6_back 28 = .ok (.iload_n 1, 1) := by decide +kernel
theorem dX6_back_29 : decode cX6_back 29 = .ok (.aaload, 1) := by decide +kernel
theorem dX6_back_30 : decode cX6_back 30 = .ok (.invokevirtual 198, 3) := by decide +kernel
theorem dX6_back_33 : decode cX6_back 33 = .ok (.aload_n 0, 1) := by decide +kernel
theorem dX6_back_34 : decode cX6_back 34 = .ok (.invokevirtual 88, 3) := by decide +kernel
theorem dX6_back_37 : decode cX6_back 37 = .ok (.aload_n 0, 1) := by decide +kernel
theorem dX6_back_38 : decode cX6_back 38 = .ok (.invokevirtual 80, 3) := by decide +kernel
theorem dX6_back_41 : decode cX6_back 41 = .ok (.invokevirtual 181, 3) := by decide +kernel
theorem dX6_back_44 : decode cX6_back 44 = .ok (.ireturn, 1) := by decide +kernel
theorem dX6_field_0 : decode cX6_field 0 = .ok (.aload_n 0, 1) := by decide +kernel
theorem dX6_field_1 : decode cX6_field 1 = .ok (.invokevirtual 80, 3) := by decide +kernel
theorem dX6_field_4 : decode cX6_field 4 = .ok (.iload_n 1, 1) := by decide +kernel
theorem dX6_field_5 : decode cX6_field 5 = .ok (.iload_n 2, 1) := by decide +kernel
theorem dX6_field_6 : decode cX6_field 6 = .ok (.invokevirtual 202, 3) := by decide +kernel
theorem dX6_field_9 : decode cX6_field 9 = .ok (.istore_n 3, 1) := by decide +kernel
theorem dX6_field_10 : decode cX6_field 10 = .ok (.iload_n 3, 1) := by decide +kernel
theorem dX6_field_11 : decode cX6_field 11 = .ok (.iconst (-1), 1) := by decide +kernel
theorem dX6_field_12 : decode cX6_field 12 = .ok (.if_icmp .ne 8, 3) := by decide +kernel
theorem dX6_field_15 : decode cX6_field 15 = .ok (.bipush (-2), 2) := by decide +kernel
theorem dX6_field_17 : decode cX6_field 17 = .ok (.goto 12, 3) := by decide +kernel
theorem dX6_field_20 : decode cX6_field 20 = .ok (.aload_n 0, 1) := by decide +kernel
theorem dX6_field_21 : decode cX6_field 21 = .ok (.invokevirtual 80, 3) := by decide +kernel
theorem dX6_field_24 : decode cX6_field 24 = .ok (.getfield 205, 3) := by decide +kernel
theorem dX6_field_27 : decode cX6_field 27 = .ok (.iload_n 3, 1) := by decide +kernel
theorem dX6_field_28 : decode cX6_field 28 = .ok (.iaload, 1) := by decide +kernel
theorem dX6_field_29 : decode cX6_field 29 = .ok (.ireturn, 1) := by decide +kernel
theorem dX6_slot_0 : decode cX6_slot 0 = .ok (.aload_n 0, 1) := by decide +kernel
theorem dX6_slot_1 : decode cX6_slot 1 = .ok (.invokevirtual 80, 3) := by decide +kernel
theorem dX6_slot_4 : decode cX6_slot 4 = .ok (.astore_n 3, 1) := by decide +kernel
theorem dX6_slot_5 : decode cX6_slot 5 = .ok (.aload_n 3, 1) := by decide +kernel
theorem dX6_slot_6 : decode cX6_slot 6 = .ok (.getfield 208, 3) := by decide +kernel
theorem dX6_slot_9 : decode cX6_slot 9 = .ok (.iload_n 1, 1) := by decide +kernel
theorem dX6_slot_10 : decode cX6_slot 10 = .ok (.invokevirtual 212, 3) := by decide +kernel
theorem dX6_slot_13 : decode cX6_slot 13 = .ok (.istore 4, 2) := by decide +kernel
theorem dX6_slot_15 : decode cX6_slot 15 = .ok (.iload 4, 2) := by decide +kernel
theorem dX6_slot_17 : decode cX6_slot 17 = .ok (.iconst (-1), 1) := by decide +kernel
theorem dX6_slot_18 : decode cX6_slot 18 = .ok (.if_icmp .ne 5, 3) := by decide +kernel
theorem dX6_slot_21 : decode cX6_slot 21 = .ok (.iconst (-1), 1) := by decide +kernel
theorem dX6_slot_22 : decode cX6_slot 22 = .ok (.ireturn, 1) := by decide +kernel
theorem dX6_slot_23 : decode cX6_slot 23 = .ok (.iload_n 2, 1) := by decide +kernel
theorem dX6_slot_24 : decode cX6_slot 24 = .ok (.tableswitch 119 0 5 #[40, 43, 49, 65, 71, 88], 40) := by decide +kernel
theorem dX6_slot_64 : decode cX6_slot 64 = .ok (.iload 4, 2) := by decide +kernel
theorem dX6_slot_66 : decode cX6_slot 66 = .ok (.ireturn, 1) := by decide +kernel
theorem dX6_slot_67 : decode cX6_slot 67 = .ok (.aload_n 3, 1) := by decide +kernel
theorem dX6_slot_68 : decode cX6_slot 68 = .ok (.iload_n 1, 1) := by decide +kernel
theorem dX6_slot_69 : decode cX6_slot 69 = .ok (.invokevirtual 217, 3) := by decide +kernel
theorem dX6_slot_72 : decode cX6_slot 72 = .ok (.ireturn, 1) := by decide +kernel
theorem dX6_slot_73 : decode cX6_slot 73 = .ok (.iload 4, 2) := by decide +kernel
theorem dX6_slot_75 : decode cX6_slot 75 = .ok (.ifCond .ne 7, 3) := by decide +kernel
theorem dX6_slot_78 : decode cX6_slot 78 = .ok (.iconst 0, 1) := by decide +kernel
theorem dX6_slot_79 : decode cX6_slot 79 = .ok (.goto 9, 3) := by decide +kernel
theorem dX6_slot_82 : decode cX6_slot 82 = .ok (.aload_n 3, 1) := by decide +kernel
theorem dX6_slot_83 : decode cX6_slot 83 = .ok (.getfield 205, 3) := by decide +kernel
theorem dX6_slot_86 : decode cX6_slot 86 = .ok (.iload_n 1, 1) := by decide +kernel
theorem dX6_slot_87 : decode cX6_slot 87 = .ok (.iaload, 1) := by decide +kernel
theorem dX6_slot_88 : decode cX6_slot 88 = .ok (.ireturn, 1) := by decide +kernel
theorem dX6_slot_89 : decode cX6_slot 89 = .ok (.aload_n 3, 1) := by decide +kernel
theorem dX6_slot_90 : decode cX6_slot 90 = .ok (.iload_n 1, 1) := by decide +kernel
theorem dX6_slot_91 : decode cX6_slot 91 = .ok (.invokevirtual 220, 3) := by decide +kernel
theorem dX6_slot_94 : decode cX6_slot 94 = .ok (.ireturn, 1) := by decide +kernel
theorem dX6_slot_95 : decode cX6_slot 95 = .ok (.iload_n 1, 1) := by decide +kernel
theorem dX6_slot_96 : decode cX6_slot 96 = .ok (.aload_n 3, 1) := by decide +kernel
theorem dX6_slot_97 : decode cX6_slot 97 = .ok (.getfield 223, 3) := by decide +kernel
theorem dX6_slot_100 : decode cX6_slot 100 = .ok (.if_icmp .ne 10, 3) := by decide +kernel
theorem dX6_slot_103 : decode cX6_slot 103 = .ok (.aload_n 3, 1) := by decide +kernel
theorem dX6_slot_104 : decode cX6_slot 104 = .ok (.getfield 226, 3) := by decide +kernel
theorem dX6_slot_107 : decode cX6_slot 107 = .ok (.goto 4, 3) := by decide +kernel
theorem dX6_slot_110 : decode cX6_slot 110 = .ok (.iconst 0, 1) := by decide +kernel
theorem dX6_slot_111 : decode cX6_slot 111 = .ok (.ireturn, 1) := by decide +kernel
theorem dX6_slot_112 : decode cX6_slot 112 = .ok (.aload_n 0, 1) := by decide +kernel
theorem dX6_slot_113 : decode cX6_slot 113 = .ok (.getfield 44, 3) := by decide +kernel
theorem dX6_slot_116 : decode cX6_slot 116 = .ok (.aload_n 3, 1) := by decide +kernel
theorem dX6_slot_117 : decode cX6_slot 117 = .ok (.iconst 0, 1) := by decide +kernel
theorem dX6_slot_118 : decode cX6_slot 118 = .ok (.bipush 6, 2) := by decide +kernel
theorem dX6_slot_120 : decode cX6_slot 120 = .ok (.iconst (-1), 1) := by decide +kernel
theorem dX6_slot_121 : decode cX6_slot 121 = .ok (.invokevirtual 185, 3) := by decide +kernel
theorem dX6_slot_124 : decode cX6_slot 124 = .ok (.aload_n 0, 1) := by decide +kernel
theorem dX6_slot_125 : decode cX6_slot 125 = .ok (.getfield 44, 3) := by decide +kernel
theorem dX6_slot_128 : decode cX6_slot 128 = .ok (.getfield 229, 3) := by decide +kernel
theorem dX6_slot_131 : decode cX6_slot 131 = .ok (.iload_n 1, 1) := by decide +kernel
theorem dX6_slot_132 : decode cX6_slot 132 = .ok (.iaload, 1) := by decide +kernel
theorem dX6_slot_133 : decode cX6_slot 133 = .ok (.iconst (-1), 1) := by decide +kernel
theorem dX6_slot_134 : decode cX6_slot 134 = .ok (.if_icmp .ne 7, 3) := by decide +kernel
theorem dX6_slot_137 : decode cX6_slot 137 = .ok (.iconst 0, 1) := by decide +kernel
theorem dX6_slot_138 : decode cX6_slot 138 = .ok (.goto 4, 3) := by decide +kernel
theorem dX6_slot_141 : decode cX6_slot 141 = .ok (.iconst 1, 1) := by decide +kernel
theorem dX6_slot_142 : decode cX6_slot 142 = .ok (.ireturn, 1) := by decide +kernel
theorem dX6_slot_143 : decode cX6_slot 143 = .ok (.iconst (-1), 1) := by decide +kernel
theorem dX6_slot_144 : decode cX6_slot 144 = .ok (.ireturn, 1) := by decide +kernel
theorem dX6_ring_0 : decode cX6_ring 0 = .ok (.iload_n 1, 1) := by decide +kernel
theorem dX6_ring_1 : decode cX6_ring 1 = .ok (.invokestatic 232, 3) := by decide +kernel
theorem dX6_ring_4 : decode cX6_ring 4 = .ok (.ifCond .eq 7, 3) := by decide +kernel
theorem dX6_ring_7 : decode cX6_ring 7 = .ok (.iload_n 2, 1) := by decide +kernel
theorem dX6_ring_8 : decode cX6_ring 8 = .ok (.ifCond .ge 5, 3) := by decide +kernel
theorem dX6_ring_11 : decode cX6_ring 11 = .ok (.iconst (-1), 1) := by decide +kernel
theorem dX6_ring_12 : decode cX6_ring 12 = .ok (.ireturn, 1) := by decide +kernel
theorem dX6_ring_13 : decode cX6_ring 13 = .ok (.aload_n 0, 1) := by decide +kernel
theorem dX6_ring_14 : decode cX6_ring 14 = .ok (.invokevirtual 80, 3) := by decide +kernel
theorem dX6_ring_17 : decode cX6_ring 17 = .ok (.getfield 208, 3) := by decide +kernel
theorem dX6_ring_20 : decode cX6_ring 20 = .ok (.iload_n 1, 1) := by decide +kernel
theorem dX6_ring_21 : decode cX6_ring 21 = .ok (.iload_n 2, 1) := by decide +kernel
theorem dX6_ring_22 : decode cX6_ring 22 = .ok (.invokevirtual 235, 3) := by decide +kernel
theorem dX6_ring_25 : decode cX6_ring 25 = .ok (.ireturn, 1) := by decide +kernel
theorem dX6_many_0 : decode cX6_many 0 = .ok (.iload_n 1, 1) := by decide +kernel
theorem dX6_many_1 : decode cX6_many 1 = .ok (.invokestatic 232, 3) := by decide +kernel
theorem dX6_many_4 : decode cX6_many 4 = .ok (.ifCond .eq 12, 3) := by decide +kernel
theorem dX6_many_7 : decode cX6_many 7 = .ok (.iload_n 2, 1) := by decide +kernel
theorem dX6_many_8 : decode cX6_many 8 = .ok (.ifCond .lt 8, 3) := by decide +kernel
theorem dX6_many_11 : decode cX6_many 11 = .ok (.iload_n 2, 1) := by decide +kernel
theorem dX6_many_12 : decode cX6_many 12 = .ok (.iconst 3, 1) := by decide +kernel
theorem dX6_many_13 : decode cX6_many 13 = .ok (.if_icmp .le 5, 3) := by decide +kernel
theorem dX6_many_16 : decode cX6_many 16 = .ok (.iconst (-1), 1) := by decide +kernel
theorem dX6_many_17 : decode cX6_many 17 = .ok (.ireturn, 1) := by decide +kernel
theorem dX6_many_18 : decode cX6_many 18 = .ok (.aload_n 0, 1) := by decide +kernel
theorem dX6_many_19 : decode cX6_many 19 = .ok (.invokevirtual 80, 3) := by decide +kernel
theorem dX6_many_22 : decode cX6_many 22 = .ok (.getfield 208, 3) := by decide +kernel
theorem dX6_many_25 : decode cX6_many 25 = .ok (.iload_n 1, 1) := by decide +kernel
theorem dX6_many_26 : decode cX6_many 26 = .ok (.iload_n 2, 1) := by decide +kernel
theorem dX6_many_27 : decode cX6_many 27 = .ok (.invokestatic 238, 3) := by decide +kernel
theorem dX6_many_30 : decode cX6_many 30 = .ok (.invokevirtual 241, 3) := by decide +kernel
theorem dX6_many_33 : decode cX6_many 33 = .ok (.ireturn, 1) := by decide +kernel
theorem dX6_page_0 : decode cX6_page 0 = .ok (.aload_n 0, 1) := by decide +kernel
theorem dX6_page_1 : decode cX6_page 1 = .ok (.invokevirtual 80, 3) := by decide +kernel
theorem dX6_page_4 : decode cX6_page 4 = .ok (.astore_n 3, 1) := by decide +kernel
theorem dX6_page_5 : decode cX6_page 5 = .ok (.iload_n 1, 1) := by decide +kernel
theorem dX6_page_6 : decode cX6_page 6 = .ok (.ifCond .lt 11, 3) := by decide +kernel
theorem dX6_page_9 : decode cX6_page 9 = .ok (.iload_n 1, 1) := by decide +kernel
theorem dX6_page_10 : decode cX6_page 10 = .ok (.aload_n 3, 1) := by decide +kernel
theorem dX6_page_11 : decode cX6_page 11 = .ok (.getfield 244, 3) := by decide +kernel
theorem dX6_page_14 : decode cX6_page 14 = .ok (.if_icmp .lt 5, 3) := by decide +kernel
theorem dX6_page_17 : decode cX6_page 17 = .ok (.iconst (-1), 1) := by decide +kernel
theorem dX6_page_18 : decode cX6_page 18 = .ok (.ireturn, 1) := by decide +kernel
theorem dX6_page_19 : decode cX6_page 19 = .ok (.aload_n 3, 1) := by decide +kernel
theorem dX6_page_20 : decode cX6_page 20 = .ok (.getfield 247, 3) := by decide +kernel
theorem dX6_page_23 : decode cX6_page 23 = .ok (.iload_n 1, 1) := by decide +kernel
theorem dX6_page_24 : decode cX6_page 24 = .ok (.iaload, 1) := by decide +kernel
theorem dX6_page_25 : decode cX6_page 25 = .ok (.istore 4, 2) := by decide +kernel
theorem dX6_page_27 : decode cX6_page 27 = .ok (.iload_n 2, 1) := by decide +kernel
theorem dX6_page_28 : decode cX6_page 28 = .ok (.tableswitch 60 0 2 #[28, 31, 53], 28) := by decide +kernel
theorem dX6_page_56 : decode cX6_page 56 = .ok (.iload 4, 2) := by decide +kernel
theorem dX6_page_58 : decode cX6_page 58 = .ok (.ireturn, 1) := by decide +kernel
theorem dX6_page_59 : decode cX6_page 59 = .ok (.iload 4, 2) := by decide +kernel
theorem dX6_page_61 : decode cX6_page 61 = .ok (.ifCond .ne 7, 3) := by decide +kernel
theorem dX6_page_64 : decode cX6_page 64 = .ok (.iconst 0, 1) := by decide +kernel
theorem dX6_page_65 : decode cX6_page 65 = .ok (.goto 15, 3) := by decide +kernel
theorem dX6_page_68 : decode cX6_page 68 = .ok (.bipush 16, 2) := by decide +kernel
theorem dX6_page_70 : decode cX6_page 70 = .ok (.iload 4, 2) := by decide +kernel
theorem dX6_page_72 : decode cX6_page 72 = .ok (.idiv, 1) := by decide +kernel
theorem dX6_page_73 : decode cX6_page 73 = .ok (.aload_n 3, 1) := by decide +kernel
theorem dX6_page_74 : decode cX6_page 74 = .ok (.getfield 250, 3) := by decide +kernel
theorem dX6_page_77 : decode cX6_page 77 = .ok (.iload_n 1, 1) := by decide +kernel
theorem dX6_page_78 : decode cX6_page 78 = .ok (.iaload, 1) := by decide +kernel
theorem dX6_page_79 : decode cX6_page 79 = .ok (.isub, 1) := by decide +kernel
theorem dX6_page_80 : decode cX6_page 80 = .ok (.ireturn, 1) := by decide +kernel
theorem dX6_page_81 : decode cX6_page 81 = .ok (.aload_n 3, 1) := by decide +kernel
theorem dX6_page_82 : decode cX6_page 82 = .ok (.getfield 250, 3) := by decide +kernel
theorem dX6_page_85 : decode cX6_page 85 = .ok (.iload_n 1, 1) := by decide +kernel
theorem dX6_page_86 : decode cX6_page 86 = .ok (.iaload, 1) := by decide +kernel
theorem dX6_page_87 : decode cX6_page 87 = .ok (.ireturn, 1) := by decide +kernel
theorem dX6_page_88 : decode cX6_page 88 = .ok (.iconst (-1), 1) := by decide +kernel
theorem dX6_page_89 : decode cX6_page 89 = .ok (.ireturn, 1) := by decide +kernel
theorem dX6_grey_0 : decode cX6_grey 0 = .ok (.iload_n 1, 1) := by decide +kernel
theorem dX6_grey_1 : decode cX6_grey 1 = .ok (.ifCond .ge 7, 3) := by decide +kernel
theorem dX6_grey_4 : decode cX6_grey 4 = .ok (.iconst (-1), 1) := by decide +kernel
theorem dX6_grey_5 : decode cX6_grey 5 = .ok (.goto 11, 3) := by decide +kernel
theorem dX6_grey_8 : decode cX6_grey 8 = .ok (.aload_n 0, 1) := by decide +kernel
theorem dX6_grey_9 : decode cX6_grey 9 = .ok (.invokevirtual 80, 3) := by decide +kernel
theorem dX6_grey_12 : decode cX6_grey 12 = .ok (.iload_n 1, 1) := by decide +kernel
theorem dX6_grey_13 : decode cX6_grey 13 = .ok (.invokevirtual 253, 3) := by decide +kernel
theorem dX6_grey_16 : decode cX6_grey 16 = .ok (.ireturn, 1) := by decide +kernel
theorem dX6_live_0 : decode cX6_live 0 = .ok (.iload_n 1, 1) := by decide +kernel
theorem dX6_live_1 : decode cX6_live 1 = .ok (.ifCond .lt 8, 3) := by decide +kernel
theorem dX6_live_4 : decode cX6_live 4 = .ok (.iload_n 1, 1) := by decide +kernel
theorem dX6_live_5 : decode cX6_live 5 = .ok (.iconst 3, 1) := by decide +kernel
theorem dX6_live_6 : decode cX6_live 6 = .ok (.if_icmp .le 5, 3) := by decide +kernel
theorem dX6_live_9 : decode cX6_live 9 = .ok (.iconst (-1), 1) := by decide +kernel
theorem dX6_live_10 : decode cX6_live 10 = .ok (.ireturn, 1) := by decide +kernel
theorem dX6_live_11 : decode cX6_live 11 = .ok (.aload_n 0, 1) := by decide +kernel
theorem dX6_live_12 : decode cX6_live 12 = .ok (.invokevirtual 80, 3) := by decide +kernel
theorem dX6_live_15 : decode cX6_live 15 = .ok (.astore_n 2, 1) := by decide +kernel
theorem dX6_live_16 : decode cX6_live 16 = .ok (.aload_n 0, 1) := by decide +kernel
theorem dX6_live_17 : decode cX6_live 17 = .ok (.getfield 44, 3) := by decide +kernel
theorem dX6_live_20 : decode cX6_live 20 = .ok (.aload_n 2, 1) := by decide +kernel
theorem dX6_live_21 : decode cX6_live 21 = .ok (.iconst 0, 1) := by decide +kernel
theorem dX6_live_22 : decode cX6_live 22 = .ok (.bipush 6, 2) := by decide +kernel
theorem dX6_live_24 : decode cX6_live 24 = .ok (.iconst (-1), 1) := by decide +kernel
theorem dX6_live_25 : decode cX6_live 25 = .ok (.invokevirtual 185, 3) := by decide +kernel
theorem dX6_live_28 : decode cX6_live 28 = .ok (.iload_n 1, 1) := by decide +kernel
theorem dX6_live_29 : decode cX6_live 29 = .ok (.tableswitch 57 0 2 #[27, 35, 44], 27) := by decide +kernel
theorem dX6_live_56 : decode cX6_live 56 = .ok (.aload_n 0, 1) := by decide +kernel
theorem dX6_live_57 : decode cX6_live 57 = .ok (.getfield 44, 3) := by decide +kernel
theorem dX6_live_60 : decode cX6_live 60 = .ok (.getfield 189, 3) := by decide +kernel
theorem dX6_live_63 : decode cX6_live 63 = .ok (.ireturn, 1) := by decide +kernel
theorem dX6_live_64 : decode cX6_live 64 = .ok (.aload_n 0, 1) := by decide +kernel
theorem dX6_live_65 : decode cX6_live 65 = .ok (.getfield 44, 3) := by decide +kernel
theorem dX6_live_68 : decode cX6_live 68 = .ok (.aload_n 2, 1) := by decide +kernel
theorem dX6_live_69 : decode cX6_live 69 = .ok (.invokevirtual 256, 3) := by decide +kernel
theorem dX6_live_72 : decode cX6_live 72 = .ok (.ireturn, 1) := by decide +kernel
theorem dX6_live_73 : decode cX6_live 73 = .ok (.aload_n 2, 1) := by decide +kernel
theorem dX6_live_74 : decode cX6_live 74 = .ok (.invokevirtual 181, 3) := by decide +kernel
theorem dX6_live_77 : decode cX6_live 77 = .ok (.aload_n 0, 1) := by decide +kernel
theorem dX6_live_78 : decode cX6_live 78 = .ok (.getfield 44, 3) := by decide +kernel
theorem dX6_live_81 : decode cX6_live 81 = .ok (.getfield 189, 3) := by decide +kernel
theorem dX6_live_84 : decode cX6_live 84 = .ok (.isub, 1) := by decide +kernel
theorem dX6_live_85 : decode cX6_live 85 = .ok (.ireturn, 1) := by decide +kernel
theorem dX6_live_86 : decode cX6_live 86 = .ok (.aload_n 2, 1) := by decide +kernel
theorem dX6_live_87 : decode cX6_live 87 = .ok (.getfield 135, 3) := by decide +kernel
theorem dX6_live_90 : decode cX6_live 90 = .ok (.ifCond .eq 14, 3) := by decide +kernel
theorem dX6_live_93 : decode cX6_live 93 = .ok (.aload_n 0, 1) := by decide +kernel
theorem dX6_live_94 : decode cX6_live 94 = .ok (.getfield 44, 3) := by decide +kernel
theorem dX6_live_97 : decode cX6_live 97 = .ok (.aload_n 2, 1) := by decide +kernel
theorem dX6_live_98 : decode cX6_live 98 = .ok (.invokevirtual 260, 3) := by decide +kernel
theorem dX6_live_101 : decode cX6_live 101 = .ok (.goto 4, 3) := by decide +kernel
theorem dX6_live_104 : decode cX6_live 104 = .ok (.iconst 0, 1) := by decide +kernel
theorem dX6_live_105 : decode cX6_live 105 = .ok (.ireturn, 1) := by decide +kernel
theorem dX6_path_0 : decode cX6_path 0 = .ok (.iload_n 1, 1) := by decide +kernel
theorem dX6_path_1 : decode cX6_path 1 = .ok (.invokestatic 91, 3) := by decide +kernel
theorem dX6_path_4 : decode cX6_path 4 = .ok (.ifCond .eq 14, 3) := by decide +kernel
theorem dX6_path_7 : decode cX6_path 7 = .ok (.aload_n 0, 1) := by decide +kernel
theorem dX6_path_8 : decode cX6_path 8 = .ok (.invokevirtual 80, 3) := by decide +kernel
theorem dX6_path_11 : decode cX6_path 11 = .ok (.iload_n 2, 1) := by decide +kernel
theorem dX6_path_12 : decode cX6_path 12 = .ok (.invokevirtual 263, 3) := by decide +kernel
theorem dX6_path_15 : decode cX6_path 15 = .ok (.ifCond .ne 5, 3) := by decide +kernel
theorem dX6_path_18 : decode cX6_path 18 = .ok (.iconst (-1), 1) := by decide +kernel
theorem dX6_path_19 : decode cX6_path 19 = .ok (.ireturn, 1) := by decide +kernel
theorem dX6_path_20 : decode cX6_path 20 = .ok (.aload_n 0, 1) := by decide +kernel
theorem dX6_path_21 : decode cX6_path 21 = .ok (.getfield 44, 3) := by decide +kernel
theorem dX6_path_24 : decode cX6_path 24 = .ok (.aload_n 0, 1) := by decide +kernel
theorem dX6_path_25 : decode cX6_path 25 = .ok (.invokevirtual 80, 3) := by decide +kernel
theorem dX6_path_28 : decode cX6_path 28 = .ok (.iload_n 1, 1) := by decide +kernel
theorem dX6_path_29 : decode cX6_path 29 = .ok (.iload_n 1, 1) := by decide +kernel
theorem dX6_path_30 : decode cX6_path 30 = .ok (.iconst 1, 1) := by decide +kernel
theorem dX6_path_31 : decode cX6_path 31 = .ok (.iadd, 1) := by decide +kernel
theorem dX6_path_32 : decode cX6_path 32 = .ok (.iconst (-1), 1) := by decide +kernel
theorem dX6_path_33 : decode cX6_path 33 = .ok (.invokevirtual 185, 3) := by decide +kernel
theorem dX6_path_36 : decode cX6_path 36 = .ok (.aload_n 0, 1) := by decide +kernel
theorem dX6_path_37 : decode cX6_path 37 = .ok (.getfield 44, 3) := by decide +kernel
theorem dX6_path_40 : decode cX6_path 40 = .ok (.getfield 229, 3) := by decide +kernel
theorem dX6_path_43 : decode cX6_path 43 = .ok (.iload_n 2, 1) := by decide +kernel
theorem dX6_path_44 : decode cX6_path 44 = .ok (.iaload, 1) := by decide +kernel
theorem dX6_path_45 : decode cX6_path 45 = .ok (.ireturn, 1) := by decide +kernel
theorem dX6_retained_0 : decode cX6_retained 0 = .ok (.aload_n 0, 1) := by decide +kernel
theorem dX6_retained_1 : decode cX6_retained 1 = .ok (.invokevirtual 80, 3) := by decide +kernel
theorem dX6_retained_4 : decode cX6_retained 4 = .ok (.iload_n 1, 1) := by decide +kernel
theorem dX6_retained_5 : decode cX6_retained 5 = .ok (.invokevirtual 263, 3) := by decide +kernel
theorem dX6_retained_8 : decode cX6_retained 8 = .ok (.ifCond .ne 5, 3) := by decide +kernel
theorem dX6_retained_11 : decode cX6_retained 11 = .ok (.iconst (-1), 1) := by decide +kernel
theorem dX6_retained_12 : decode cX6_retained 12 = .ok (.ireturn, 1) := by decide +kernel
theorem dX6_retained_13 : decode cX6_retained 13 = .ok (.aload_n 0, 1) := by decide +kernel
theorem dX6_retained_14 : decode cX6_retained 14 = .ok (.getfield 44, 3) := by decide +kernel
theorem dX6_retained_17 : decode cX6_retained 17 = .ok (.aload_n 0, 1) := by decide +kernel
theorem dX6_retained_18 : decode cX6_retained 18 = .ok (.invokevirtual 80, 3) := by decide +kernel
theorem dX6_retained_21 : decode cX6_retained 21 = .ok (.iconst 0, 1) := by decide +kernel
theorem dX6_retained_22 : decode cX6_retained 22 = .ok (.bipush 6, 2) := by decide +kernel
theorem dX6_retained_24 : decode cX6_retained 24 = .ok (.iconst (-1), 1) := by decide +kernel
theorem dX6_retained_25 : decode cX6_retained 25 = .ok (.invokevirtual 185, 3) := by decide +kernel
theorem dX6_retained_28 : decode cX6_retained 28 = .ok (.aload_n 0, 1) := by decide +kernel
theorem dX6_retained_29 : decode cX6_retained 29 = .ok (.getfield 44, 3) := by decide +kernel
theorem dX6_retained_32 : decode cX6_retained 32 = .ok (.getfield 229, 3) := by decide +kernel
theorem dX6_retained_35 : decode cX6_retained 35 = .ok (.iload_n 1, 1) := by decide +kernel
theorem dX6_retained_36 : decode cX6_retained 36 = .ok (.iaload, 1) := by decide +kernel
theorem dX6_retained_37 : decode cX6_retained 37 = .ok (.iconst (-1), 1) := by decide +kernel
theorem dX6_retained_38 : decode cX6_retained 38 = .ok (.if_icmp .ne 5, 3) := by decide +kernel
theorem dX6_retained_41 : decode cX6_retained 41 = .ok (.iconst (-1), 1) := by decide +kernel
theorem dX6_retained_42 : decode cX6_retained 42 = .ok (.ireturn, 1) := by decide +kernel
theorem dX6_retained_43 : decode cX6_retained 43 = .ok (.aload_n 0, 1) := by decide +kernel
theorem dX6_retained_44 : decode cX6_retained 44 = .ok (.getfield 44, 3) := by decide +kernel
theorem dX6_retained_47 : decode cX6_retained 47 = .ok (.getfield 189, 3) := by decide +kernel
theorem dX6_retained_50 : decode cX6_retained 50 = .ok (.istore_n 2, 1) := by decide +kernel
theorem dX6_retained_51 : decode cX6_retained 51 = .ok (.aload_n 0, 1) := by decide +kernel
theorem dX6_retained_52 : decode cX6_retained 52 = .ok (.getfield 44, 3) := by decide +kernel
theorem dX6_retained_55 : decode cX6_retained 55 = .ok (.aload_n 0, 1) := by decide +kernel
theorem dX6_retained_56 : decode cX6_retained 56 = .ok (.invokevirtual 80, 3) := by decide +kernel
theorem dX6_retained_59 : decode cX6_retained 59 = .ok (.iconst 0, 1) := by decide +kernel
theorem dX6_retained_60 : decode cX6_retained 60 = .ok (.bipush 6, 2) := by decide +kernel
theorem dX6_retained_62 : decode cX6_retained 62 = .ok (.iload_n 1, 1) := by decide +kernel
theorem dX6_retained_63 : decode cX6_retained 63 = .ok (.invokevirtual 185, 3) := by decide +kernel
theorem dX6_retained_66 : decode cX6_retained 66 = .ok (.iload_n 2, 1) := by decide +kernel
theorem dX6_retained_67 : decode cX6_retained 67 = .ok (.aload_n 0, 1) := by decide +kernel
theorem dX6_retained_68 : decode cX6_retained 68 = .ok (.getfield 44, 3) := by decide +kernel
theorem dX6_retained_71 : decode cX6_retained 71 = .ok (.getfield 189, 3) := by decide +kernel
theorem dX6_retained_74 : decode cX6_retained 74 = .ok (.isub, 1) := by decide +kernel
theorem dX6_retained_75 : decode cX6_retained 75 = .ok (.ireturn, 1) := by decide +kernel
theorem dX6_end_0 : decode cX6_end 0 = .ok (.iload_n 1, 1) := by decide +kernel
theorem dX6_end_1 : decode cX6_end 1 = .ok (.ifCond .lt 8, 3) := by decide +kernel
theorem dX6_end_4 : decode cX6_end 4 = .ok (.iload_n 1, 1) := by decide +kernel
theorem dX6_end_5 : decode cX6_end 5 = .ok (.iconst 3, 1) := by decide +kernel
theorem dX6_end_6 : decode cX6_end 6 = .ok (.if_icmp .le 5, 3) := by decide +kernel
theorem dX6_end_9 : decode cX6_end 9 = .ok (.iconst (-1), 1) := by decide +kernel
theorem dX6_end_10 : decode cX6_end 10 = .ok (.ireturn, 1) := by decide +kernel
theorem dX6_end_11 : decode cX6_end 11 = .ok (.aload_n 0, 1) := by decide +kernel
theorem dX6_end_12 : decode cX6_end 12 = .ok (.invokevirtual 266, 3) := by decide +kernel
theorem dX6_end_15 : decode cX6_end 15 = .ok (.aload_n 0, 1) := by decide +kernel
theorem dX6_end_16 : decode cX6_end 16 = .ok (.getfield 33, 3) := by decide +kernel
theorem dX6_end_19 : decode cX6_end 19 = .ok (.getfield 135, 3) := by decide +kernel
theorem dX6_end_22 : decode cX6_end 22 = .ok (.ifCond .ne 10, 3) := by decide +kernel
theorem dX6_end_25 : decode cX6_end 25 = .ok (.aload_n 0, 1) := by decide +kernel
theorem dX6_end_26 : decode cX6_end 26 = .ok (.getfield 33, 3) := by decide +kernel
theorem dX6_end_29 : decode cX6_end 29 = .ok (.invokevirtual 139, 3) := by decide +kernel
theorem dX6_end_32 : decode cX6_end 32 = .ok (.aload_n 0, 1) := by decide +kernel
theorem dX6_end_33 : decode cX6_end 33 = .ok (.getfield 33, 3) := by decide +kernel
theorem dX6_end_36 : decode cX6_end 36 = .ok (.ldc_w 269, 3) := by decide +kernel
theorem dX6_end_39 : decode cX6_end 39 = .ok (.invokevirtual 142, 3) := by decide +kernel
theorem dX6_end_42 : decode cX6_end 42 = .ok (.pop, 1) := by decide +kernel
theorem dX6_end_43 : decode cX6_end 43 = .ok (.iload_n 1, 1) := by decide +kernel
theorem dX6_end_44 : decode cX6_end 44 = .ok (.tableswitch 66 0 2 #[28, 34, 50], 28) := by decide +kernel
theorem dX6_end_72 : decode cX6_end 72 = .ok (.aload_n 0, 1) := by decide +kernel
theorem dX6_end_73 : decode cX6_end 73 = .ok (.iconst 1, 1) := by decide +kernel
theorem dX6_end_74 : decode cX6_end 74 = .ok (.invokevirtual 178, 3) := by decide +kernel
theorem dX6_end_77 : decode cX6_end 77 = .ok (.ireturn, 1) := by decide +kernel
theorem dX6_end_78 : decode cX6_end 78 = .ok (.aload_n 0, 1) := by decide +kernel
theorem dX6_end_79 : decode cX6_end 79 = .ok (.invokevirtual 80, 3) := by decide +kernel
theorem dX6_end_82 : decode cX6_end 82 = .ok (.invokevirtual 181, 3) := by decide +kernel
theorem dX6_end_85 : decode cX6_end 85 = .ok (.aload_n 0, 1) := by decide +kernel
theorem dX6_end_86 : decode cX6_end 86 = .ok (.getfield 33, 3) := by decide +kernel
theorem dX6_end_89 : decode cX6_end 89 = .ok (.invokevirtual 181, 3) := by decide +kernel
theorem dX6_end_92 : decode cX6_end 92 = .ok (.isub, 1) := by decide +kernel
theorem dX6_end_93 : decode cX6_end 93 = .ok (.ireturn, 1) := by decide +kernel
theorem dX6_end_94 : decode cX6_end 94 = .ok (.aload_n 0, 1) := by decide +kernel
theorem dX6_end_95 : decode cX6_end 95 = .ok (.invokevirtual 80, 3) := by decide +kernel
theorem dX6_end_98 : decode cX6_end 98 = .ok (.invokevirtual 270, 3) := by decide +kernel
theorem dX6_end_101 : decode cX6_end 101 = .ok (.aload_n 0, 1) := by decide +kernel
theorem dX6_end_102 : decode cX6_end 102 = .ok (.getfield 33, 3) := by decide +kernel
theorem dX6_end_105 : decode cX6_end 105 = .ok (.invokevirtual 270, 3) := by decide +kernel
theorem dX6_end_108 : decode cX6_end 108 = .ok (.isub, 1) := by decide +kernel
theorem dX6_end_109 : decode cX6_end 109 = .ok (.ireturn, 1) := by decide +kernel
theorem dX6_end_110 : decode cX6_end 110 = .ok (.aload_n 0, 1) := by decide +kernel
theorem dX6_end_111 : decode cX6_end 111 = .ok (.iconst 3, 1) := by decide +kernel
theorem dX6_end_112 : decode cX6_end 112 = .ok (.invokevirtual 178, 3) := by decide +kernel
theorem dX6_end_115 : decode cX6_end 115 = .ok (.ireturn, 1) := by decide +kernel
theorem dX6_room_0 : decode cX6_room 0 = .ok (.iload_n 1, 1) := by decide +kernel
theorem dX6_room_1 : decode cX6_room 1 = .ok (.invokestatic 95, 3) := by decide +kernel
theorem dX6_room_4 : decode cX6_room 4 = .ok (.ifCond .eq 12, 3) := by decide +kernel
theorem dX6_room_7 : decode cX6_room 7 = .ok (.iload_n 2, 1) := by decide +kernel
theorem dX6_room_8 : decode cX6_room 8 = .ok (.ifCond .lt 8, 3) := by decide +kernel
theorem dX6_room_11 : decode cX6_room 11 = .ok (.iload_n 2, 1) := by decide +kernel
theorem dX6_room_12 : decode cX6_room 12 = .ok (.iconst 1, 1) := by decide +kernel
theorem dX6_room_13 : decode cX6_room 13 = .ok (.if_icmp .le 5, 3) := by decide +kernel
theorem dX6_room_16 : decode cX6_room 16 = .ok (.iconst (-1), 1) := by decide +kernel
theorem dX6_room_17 : decode cX6_room 17 = .ok (.ireturn, 1) := by decide +kernel
theorem dX6_room_18 : decode cX6_room 18 = .ok (.aload_n 0, 1) := by decide +kernel
theorem dX6_room_19 : decode cX6_room 19 = .ok (.invokevirtual 266, 3) := by decide +kernel
theorem dX6_room_22 : decode cX6_room 22 = .ok (.aload_n 0, 1) := by decide +kernel
theorem dX6_room_23 : decode cX6_room 23 = .ok (.iload_n 1, 1) := by decide +kernel
theorem dX6_room_24 : decode cX6_room 24 = .ok (.bipush 64, 2) := by decide +kernel
theorem dX6_room_26 : decode cX6_room 26 = .ok (.iload_n 2, 1) := by decide +kernel
theorem dX6_room_27 : decode cX6_room 27 = .ok (.iconst 1, 1) := by decide +kernel
theorem dX6_room_28 : decode cX6_room 28 = .ok (.if_icmp .ne 7, 3) := by decide +kernel
theorem dX6_room_31 : decode cX6_room 31 = .ok (.iconst 1, 1) := by decide +kernel
theorem dX6_room_32 : decode cX6_room 32 = .ok (.goto 4, 3) := by decide +kernel
theorem dX6_room_35 : decode cX6_room 35 = .ok (.iconst 0, 1) := by decide +kernel
theorem dX6_room_36 : decode cX6_room 36 = .ok (.invokevirtual 273, 3) := by decide +kernel
theorem dX6_room_39 : decode cX6_room 39 = .ok (.ireturn, 1) := by decide +kernel
theorem dX6_pace_0 : decode cX6_pace 0 = .ok (.iload_n 1, 1) := by decide +kernel
theorem dX6_pace_1 : decode cX6_pace 1 = .ok (.invokestatic 95, 3) := by decide +kernel
theorem dX6_pace_4 : decode cX6_pace 4 = .ok (.ifCond .eq 14, 3) := by decide +kernel
theorem dX6_pace_7 : decode cX6_pace 7 = .ok (.iload_n 2, 1) := by decide +kernel
theorem dX6_pace_8 : decode cX6_pace 8 = .ok (.iconst 1, 1) := by decide +kernel
theorem dX6_pace_9 : decode cX6_pace 9 = .ok (.if_icmp .lt 9, 3) := by decide +kernel
theorem dX6_pace_12 : decode cX6_pace 12 = .ok (.iload_n 2, 1) := by decide +kernel
theorem dX6_pace_13 : decode cX6_pace 13 = .ok (.bipush 64, 2) := by decide +kernel
theorem dX6_pace_15 : decode cX6_pace 15 = .ok (.if_icmp .le 5, 3) := by decide +kernel
theorem dX6_pace_18 : decode cX6_pace 18 = .ok (.iconst (-1), 1) := by decide +kernel
theorem dX6_pace_19 : decode cX6_pace 19 = .ok (.ireturn, 1) := by decide +kernel
theorem dX6_pace_20 : decode cX6_pace 20 = .ok (.iconst 0, 1) := by decide +kernel
theorem dX6_pace_21 : decode cX6_pace 21 = .ok (.istore_n 3, 1) := by decide +kernel
theorem dX6_pace_22 : decode cX6_pace 22 = .ok (.iload_n 3, 1) := by decide +kernel
theorem dX6_pace_23 : decode cX6_pace 23 = .ok (.bipush 16, 2) := by decide +kernel
theorem dX6_pace_25 : decode cX6_pace 25 = .ok (.if_icmp .gt 36, 3) := by decide +kernel
theorem dX6_pace_28 : decode cX6_pace 28 = .ok (.aload_n 0, 1) := by decide +kernel
theorem dX6_pace_29 : decode cX6_pace 29 = .ok (.invokevirtual 266, 3) := by decide +kernel
theorem dX6_pace_32 : decode cX6_pace 32 = .ok (.aload_n 0, 1) := by decide +kernel
theorem dX6_pace_33 : decode cX6_pace 33 = .ok (.getfield 33, 3) := by decide +kernel
theorem dX6_pace_36 : decode cX6_pace 36 = .ok (.getfield 145, 3) := by decide +kernel
theorem dX6_pace_39 : decode cX6_pace 39 = .ok (.iconst 2, 1) := by decide +kernel
theorem dX6_pace_40 : decode cX6_pace 40 = .ok (.iload_n 3, 1) := by decide +kernel
theorem dX6_pace_41 : decode cX6_pace 41 = .ok (.iastore, 1) := by decide +kernel
theorem dX6_pace_42 : decode cX6_pace 42 = .ok (.aload_n 0, 1) := by decide +kernel
theorem dX6_pace_43 : decode cX6_pace 43 = .ok (.iload_n 1, 1) := by decide +kernel
theorem dX6_pace_44 : decode cX6_pace 44 = .ok (.iload_n 2, 1) := by decide +kernel
theorem dX6_pace_45 : decode cX6_pace 45 = .ok (.iconst 0, 1) := by decide +kernel
theorem dX6_pace_46 : decode cX6_pace 46 = .ok (.invokevirtual 273, 3) := by decide +kernel
theorem dX6_pace_49 : decode cX6_pace 49 = .ok (.iload_n 2, 1) := by decide +kernel
theorem dX6_pace_50 : decode cX6_pace 50 = .ok (.if_icmp .ne 5, 3) := by decide +kernel
theorem dX6_pace_53 : decode cX6_pace 53 = .ok (.iload_n 3, 1) := by decide +kernel
theorem dX6_pace_54 : decode cX6_pace 54 = .ok (.ireturn, 1) := by decide +kernel
theorem dX6_pace_55 : decode cX6_pace 55 = .ok (.iinc 3 1, 3) := by decide +kernel
theorem dX6_pace_58 : decode cX6_pace 58 = .ok (.goto (-36), 3) := by decide +kernel
theorem dX6_pace_61 : decode cX6_pace 61 = .ok (.iconst (-1), 1) := by decide +kernel
theorem dX6_pace_62 : decode cX6_pace 62 = .ok (.ireturn, 1) := by decide +kernel
theorem dX6_game_0 : decode cX6_game 0 = .ok (.iload_n 1, 1) := by decide +kernel
theorem dX6_game_1 : decode cX6_game 1 = .ok (.ifCond .lt 19, 3) := by decide +kernel
theorem dX6_game_4 : decode cX6_game 4 = .ok (.iload_n 1, 1) := by decide +kernel
theorem dX6_game_5 : decode cX6_game 5 = .ok (.iconst 3, 1) := by decide +kernel
theorem dX6_game_6 : decode cX6_game 6 = .ok (.if_icmp .gt 14, 3) := by decide +kernel
theorem dX6_game_9 : decode cX6_game 9 = .ok (.iload_n 2, 1) := by decide +kernel
theorem dX6_game_10 : decode cX6_game 10 = .ok (.ifCond .lt 10, 3) := by decide +kernel
theorem dX6_game_13 : decode cX6_game 13 = .ok (.iload_n 2, 1) := by decide +kernel
theorem dX6_game_14 : decode cX6_game 14 = .ok (.sipush 9999, 3) := by decide +kernel
theorem dX6_game_17 : decode cX6_game 17 = .ok (.if_icmp .le 5, 3) := by decide +kernel
theorem dX6_game_20 : decode cX6_game 20 = .ok (.iconst (-1), 1) := by decide +kernel
theorem dX6_game_21 : decode cX6_game 21 = .ok (.ireturn, 1) := by decide +kernel
theorem dX6_game_22 : decode cX6_game 22 = .ok (.iload_n 3, 1) := by decide +kernel
theorem dX6_game_23 : decode cX6_game 23 = .ok (.iconst 1, 1) := by decide +kernel
theorem dX6_game_24 : decode cX6_game 24 = .ok (.if_icmp .lt 21, 3) := by decide +kernel
theorem dX6_game_27 : decode cX6_game 27 = .ok (.iload_n 3, 1) := by decide +kernel
theorem dX6_game_28 : decode cX6_game 28 = .ok (.sipush 200, 3) := by decide +kernel
theorem dX6_game_31 : decode cX6_game 31 = .ok (.if_icmp .gt 14, 3) := by decide +kernel
theorem dX6_game_34 : decode cX6_game 34 = .ok (.iload 4, 2) := by decide +kernel
theorem dX6_game_36 : decode cX6_game 36 = .ok (.ifCond .lt 9, 3) := by decide +kernel
theorem dX6_game_39 : decode cX6_game 39 = .ok (.iload 4, 2) := by decide +kernel
theorem dX6_game_41 : decode cX6_game 41 = .ok (.iconst 5, 1) := by decide +kernel
theorem dX6_game_42 : decode cX6_game 42 = .ok (.if_icmp .le 5, 3) := by decide +kernel
theorem dX6_game_45 : decode cX6_game 45 = .ok (.iconst (-1), 1) := by decide +kernel
theorem dX6_game_46 : decode cX6_game 46 = .ok (.ireturn, 1) := by decide +kernel
theorem dX6_game_47 : decode cX6_game 47 = .ok (.aload_n 0, 1) := by decide +kernel
theorem dX6_game_48 : decode cX6_game 48 = .ok (.iload_n 1, 1) := by decide +kernel
theorem dX6_game_49 : decode cX6_game 49 = .ok (.invokevirtual 277, 3) := by decide +kernel
theorem dX6_game_52 : decode cX6_game 52 = .ok (.aload_n 0, 1) := by decide +kernel
theorem dX6_game_53 : decode cX6_game 53 = .ok (.iload_n 2, 1) := by decide +kernel
theorem dX6_game_54 : decode cX6_game 54 = .ok (.iload_n 3, 1) := by decide +kernel
theorem dX6_game_55 : decode cX6_game 55 = .ok (.invokevirtual 280, 3) := by decide +kernel
theorem dX6_game_58 : decode cX6_game 58 = .ok (.iload 4, 2) := by decide +kernel
theorem dX6_game_60 : decode cX6_game 60 = .ok (.tableswitch 66 0 4 #[36, 42, 48, 54, 60], 36) := by decide +kernel
theorem dX6_game_96 : decode cX6_game 96 = .ok (.aload_n 0, 1) := by decide +kernel
theorem dX6_game_97 : decode cX6_game 97 = .ok (.iconst 1, 1) := by decide +kernel
theorem dX6_game_98 : decode cX6_game 98 = .ok (.invokevirtual 178, 3) := by decide +kernel
theorem dX6_game_101 : decode cX6_game 101 = .ok (.ireturn, 1) := by decide +kernel
theorem dX6_game_102 : decode cX6_game 102 = .ok (.aload_n 0, 1) := by decide +kernel
theorem dX6_game_103 : decode cX6_game 103 = .ok (.iconst 3, 1) := by decide +kernel
theorem dX6_game_104 : decode cX6_game 104 = .ok (.invokevirtual 178, 3) := by decide +kernel
theorem dX6_game_107 : decode cX6_game 107 = .ok (.ireturn, 1) := by decide +kernel
theorem dX6_game_108 : decode cX6_game 108 = .ok (.aload_n 0, 1) := by decide +kernel
theorem dX6_game_109 : decode cX6_game 109 = .ok (.iconst 2, 1) := by decide +kernel
theorem dX6_game_110 : decode cX6_game 110 = .ok (.invokevirtual 178, 3) := by decide +kernel
theorem dX6_game_113 : decode cX6_game 113 = .ok (.ireturn, 1) := by decide +kernel
theorem dX6_game_114 : decode cX6_game 114 = .ok (.aload_n 0, 1) := by decide +kernel
theorem dX6_game_115 : decode cX6_game 115 = .ok (.iconst 0, 1) := by decide +kernel
theorem dX6_game_116 : decode cX6_game 116 = .ok (.invokevirtual 178, 3) := by decide +kernel
theorem dX6_game_119 : decode cX6_game 119 = .ok (.ireturn, 1) := by decide +kernel
theorem dX6_game_120 : decode cX6_game 120 = .ok (.aload_n 0, 1) := by decide +kernel
theorem dX6_game_121 : decode cX6_game 121 = .ok (.iconst 4, 1) := by decide +kernel
theorem dX6_game_122 : decode cX6_game 122 = .ok (.invokevirtual 178, 3) := by decide +kernel
theorem dX6_game_125 : decode cX6_game 125 = .ok (.ireturn, 1) := by decide +kernel
theorem dX6_game_126 : decode cX6_game 126 = .ok (.aload_n 0, 1) := by decide +kernel
theorem dX6_game_127 : decode cX6_game 127 = .ok (.getfield 33, 3) := by decide +kernel
theorem dX6_game_130 : decode cX6_game 130 = .ok (.invokevirtual 181, 3) := by decide +kernel
theorem dX6_game_133 : decode cX6_game 133 = .ok (.ireturn, 1) := by decide +kernel
theorem dX6_law_0 : decode cX6_law 0 = .ok (.iload_n 1, 1) := by decide +kernel
theorem dX6_law_1 : decode cX6_law 1 = .ok (.ifCond .ne 11, 3) := by decide +kernel
theorem dX6_law_4 : decode cX6_law 4 = .ok (.aload_n 0, 1) := by decide +kernel
theorem dX6_law_5 : decode cX6_law 5 = .ok (.invokevirtual 80, 3) := by decide +kernel
theorem dX6_law_8 : decode cX6_law 8 = .ok (.invokevirtual 283, 3) := by decide +kernel
theorem dX6_law_11 : decode cX6_law 11 = .ok (.ireturn, 1) := by decide +kernel
theorem dX6_law_12 : decode cX6_law 12 = .ok (.iload_n 1, 1) := by decide +kernel
theorem dX6_law_13 : decode cX6_law 13 = .ok (.iconst 1, 1) := by decide +kernel
theorem dX6_law_14 : decode cX6_law 14 = .ok (.if_icmp .ne 13, 3) := by decide +kernel
theorem dX6_law_17 : decode cX6_law 17 = .ok (.aload_n 0, 1) := by decide +kernel
theorem dX6_law_18 : decode cX6_law 18 = .ok (.invokevirtual 80, 3) := by decide +kernel
theorem dX6_law_21 : decode cX6_law 21 = .ok (.invokevirtual 286, 3) := by decide +kernel
theorem dX6_law_24 : decode cX6_law 24 = .ok (.goto 4, 3) := by decide +kernel
theorem dX6_law_27 : decode cX6_law 27 = .ok (.iconst (-1), 1) := by decide +kernel
theorem dX6_law_28 : decode cX6_law 28 = .ok (.ireturn, 1) := by decide +kernel
theorem dX6_about_0 : decode cX6_about 0 = .ok (.aload_n 0, 1) := by decide +kernel
theorem dX6_about_1 : decode cX6_about 1 = .ok (.invokevirtual 80, 3) := by decide +kernel
theorem dX6_about_4 : decode cX6_about 4 = .ok (.astore_n 2, 1) := by decide +kernel
theorem dX6_about_5 : decode cX6_about 5 = .ok (.iload_n 1, 1) := by decide +kernel
theorem dX6_about_6 : decode cX6_about 6 = .ok (.iconst 2, 1) := by decide +kernel
theorem dX6_about_7 : decode cX6_about 7 = .ok (.if_icmp .lt 18, 3) := by decide +kernel
theorem dX6_about_10 : decode cX6_about 10 = .ok (.iload_n 1, 1) := by decide +kernel
theorem dX6_about_11 : decode cX6_about 11 = .ok (.bipush 6, 2) := by decide +kernel
theorem dX6_about_13 : decode cX6_about 13 = .ok (.if_icmp .gt 12, 3) := by decide +kernel
theorem dX6_about_16 : decode cX6_about 16 = .ok (.aload_n 2, 1) := by decide +kernel
theorem dX6_about_17 : decode cX6_about 17 = .ok (.getfield 289, 3) := by decide +kernel
theorem dX6_about_20 : decode cX6_about 20 = .ok (.iload_n 1, 1) := by decide +kernel
theorem dX6_about_21 : decode cX6_about 21 = .ok (.iconst 2, 1) := by decide +kernel
theorem dX6_about_22 : decode cX6_about 22 = .ok (.isub, 1) := by decide +kernel
theorem dX6_about_23 : decode cX6_about 23 = .ok (.iaload, 1) := by decide +kernel
theorem dX6_about_24 : decode cX6_about 24 = .ok (.ireturn, 1) := by decide +kernel
theorem dX6_about_25 : decode cX6_about 25 = .ok (.iload_n 1, 1) := by decide +kernel
theorem dX6_about_26 : decode cX6_about 26 = .ok (.bipush 8, 2) := by decide +kernel
theorem dX6_about_28 : decode cX6_about 28 = .ok (.if_icmp .lt 19, 3) := by decide +kernel
theorem dX6_about_31 : decode cX6_about 31 = .ok (.iload_n 1, 1) := by decide +kernel
theorem dX6_about_32 : decode cX6_about 32 = .ok (.bipush 11, 2) := by decide +kernel
theorem dX6_about_34 : decode cX6_about 34 = .ok (.if_icmp .gt 13, 3) := by decide +kernel
theorem dX6_about_37 : decode cX6_about 37 = .ok (.aload_n 2, 1) := by decide +kernel
theorem dX6_about_38 : decode cX6_about 38 = .ok (.getfield 145, 3) := by decide +kernel
theorem dX6_about_41 : decode cX6_about 41 = .ok (.iload_n 1, 1) := by decide +kernel
theorem dX6_about_42 : decode cX6_about 42 = .ok (.bipush 8, 2) := by decide +kernel
theorem dX6_about_44 : decode cX6_about 44 = .ok (.isub, 1) := by decide +kernel
theorem dX6_about_45 : decode cX6_about 45 = .ok (.iaload, 1) := by decide +kernel
theorem dX6_about_46 : decode cX6_about 46 = .ok (.ireturn, 1) := by decide +kernel
theorem dX6_about_47 : decode cX6_about 47 = .ok (.iload_n 1, 1) := by decide +kernel
theorem dX6_about_48 : decode cX6_about 48 = .ok (.tableswitch 155 0 18 #[92, 97, 155, 155, 155, 155, 155, 110, 155, 155, 155, 155, 115, 120, 125, 130, 137, 142, 150], 92) := by decide +kernel
theorem dX6_about_140 : decode cX6_about 140 = .ok (.aload_n 2, 1) := by decide +kernel
theorem dX6_about_141 : decode cX6_about 141 = .ok (.getfield 244, 3) := by decide +kernel
theorem dX6_about_144 : decode cX6_about 144 = .ok (.ireturn, 1) := by decide +kernel
theorem dX6_about_145 : decode cX6_about 145 = .ok (.aload_n 2, 1) := by decide +kernel
theorem dX6_about_146 : decode cX6_about 146 = .ok (.getfield 135, 3) := by decide +kernel
theorem dX6_about_149 : decode cX6_about 149 = .ok (.ifCond .eq 7, 3) := by decide +kernel
theorem dX6_about_152 : decode cX6_about 152 = .ok (.iconst 1, 1) := by decide +kernel
theorem dX6_about_153 : decode cX6_about 153 = .ok (.goto 4, 3) := by decide +kernel
theorem dX6_about_156 : decode cX6_about 156 = .ok (.iconst 0, 1) := by decide +kernel
theorem dX6_about_157 : decode cX6_about 157 = .ok (.ireturn, 1) := by decide +kernel
theorem dX6_about_158 : decode cX6_about 158 = .ok (.aload_n 2, 1) := by decide +kernel
theorem dX6_about_159 : decode cX6_about 159 = .ok (.invokevirtual 181, 3) := by decide +kernel
theorem dX6_about_162 : decode cX6_about 162 = .ok (.ireturn, 1) := by decide +kernel
theorem dX6_about_163 : decode cX6_about 163 = .ok (.aload_n 2, 1) := by decide +kernel
theorem dX6_about_164 : decode cX6_about 164 = .ok (.getfield 223, 3) := by decide +kernel
theorem dX6_about_167 : decode cX6_about 167 = .ok (.ireturn, 1) := by decide +kernel
theorem dX6_about_168 : decode cX6_about 168 = .ok (.aload_n 0, 1) := by decide +kernel
theorem dX6_about_169 : decode cX6_about 169 = .ok (.getfield 19, 3) := by decide +kernel
theorem dX6_about_172 : decode cX6_about 172 = .ok (.ireturn, 1) := by decide +kernel
theorem dX6_about_173 : decode cX6_about 173 = .ok (.aload_n 0, 1) := by decide +kernel
theorem dX6_about_174 : decode cX6_about 174 = .ok (.getfield 22, 3) := by decide +kernel
theorem dX6_about_177 : decode cX6_about 177 = .ok (.ireturn, 1) := by decide +kernel
theorem dX6_about_178 : decode cX6_about 178 = .ok (.aload_n 2, 1) := by decide +kernel
theorem dX6_about_179 : decode cX6_about 179 = .ok (.getfield 289, 3) := by decide +kernel
theorem dX6_about_182 : decode cX6_about 182 = .ok (.iconst 5, 1) := by decide +kernel
theorem dX6_about_183 : decode cX6_about 183 = .ok (.iaload, 1) := by decide +kernel
theorem dX6_about_184 : decode cX6_about 184 = .ok (.ireturn, 1) := by decide +kernel
theorem dX6_about_185 : decode cX6_about 185 = .ok (.aload_n 2, 1) := by decide +kernel
theorem dX6_about_186 : decode cX6_about 186 = .ok (.invokevirtual 192, 3) := by decide +kernel
theorem dX6_about_189 : decode cX6_about 189 = .ok (.ireturn, 1) := by decide +kernel
theorem dX6_about_190 : decode cX6_about 190 = .ok (.aload_n 0, 1) := by decide +kernel
theorem dX6_about_191 : decode cX6_about 191 = .ok (.getfield 64, 3) := by decide +kernel
theorem dX6_about_194 : decode cX6_about 194 = .ok (.getfield 158, 3) := by decide +kernel
theorem dX6_about_197 : decode cX6_about 197 = .ok (.ireturn, 1) := by decide +kernel
theorem dX6_about_198 : decode cX6_about 198 = .ok (.aload_n 0, 1) := by decide +kernel
theorem dX6_about_199 : decode cX6_about 199 = .ok (.getfield 51, 3) := by decide +kernel
theorem dX6_about_202 : decode cX6_about 202 = .ok (.ireturn, 1) := by decide +kernel
theorem dX6_about_203 : decode cX6_about 203 = .ok (.bipush (-2), 2) := by decide +kernel
theorem dX6_about_205 : decode cX6_about 205 = .ok (.ireturn, 1) := by decide +kernel
theorem dX6_heap_0 : decode cX6_heap 0 = .ok (.aload_n 0, 1) := by decide +kernel
theorem dX6_heap_1 : decode cX6_heap 1 = .ok (.getfield 11, 3) := by decide +kernel
theorem dX6_heap_4 : decode cX6_heap 4 = .ok (.aload_n 0, 1) := by decide +kernel
theorem dX6_heap_5 : decode cX6_heap 5 = .ok (.getfield 15, 3) := by decide +kernel
theorem dX6_heap_8 : decode cX6_heap 8 = .ok (.aaload, 1) := by decide +kernel
theorem dX6_heap_9 : decode cX6_heap 9 = .ok (.areturn, 1) := by decide +kernel
theorem dX6_act_0 : decode cX6_act 0 = .ok (.aload_n 0, 1) := by decide +kernel
theorem dX6_act_1 : decode cX6_act 1 = .ok (.getfield 11, 3) := by decide +kernel
theorem dX6_act_4 : decode cX6_act 4 = .ok (.aload_n 0, 1) := by decide +kernel
theorem dX6_act_5 : decode cX6_act 5 = .ok (.getfield 15, 3) := by decide +kernel
theorem dX6_act_8 : decode cX6_act 8 = .ok (.aaload, 1) := by decide +kernel
theorem dX6_act_9 : decode cX6_act 9 = .ok (.astore_n 1, 1) := by decide +kernel
theorem dX6_act_10 : decode cX6_act 10 = .ok (.aload_n 0, 1) := by decide +kernel
theorem dX6_act_11 : decode cX6_act 11 = .ok (.aload_n 0, 1) := by decide +kernel
theorem dX6_act_12 : decode cX6_act 12 = .ok (.getfield 15, 3) := by decide +kernel
theorem dX6_act_15 : decode cX6_act 15 = .ok (.iconst 1, 1) := by decide +kernel
theorem dX6_act_16 : decode cX6_act 16 = .ok (.iadd, 1) := by decide +kernel
theorem dX6_act_17 : decode cX6_act 17 = .ok (.aload_n 0, 1) := by decide +kernel
theorem dX6_act_18 : decode cX6_act 18 = .ok (.getfield 11, 3) := by decide +kernel
theorem dX6_act_21 : decode cX6_act 21 = .ok (.arraylength, 1) := by decide +kernel
theorem dX6_act_22 : decode cX6_act 22 = .ok (.irem, 1) := by decide +kernel
theorem dX6_act_23 : decode cX6_act 23 = .ok (.putfield 15, 3) := by decide +kernel
theorem dX6_act_26 : decode cX6_act 26 = .ok (.aload_n 0, 1) := by decide +kernel
theorem dX6_act_27 : decode cX6_act 27 = .ok (.getfield 11, 3) := by decide +kernel
theorem dX6_act_30 : decode cX6_act 30 = .ok (.aload_n 0, 1) := by decide +kernel
theorem dX6_act_31 : decode cX6_act 31 = .ok (.getfield 15, 3) := by decide +kernel
theorem dX6_act_34 : decode cX6_act 34 = .ok (.aaload, 1) := by decide +kernel
theorem dX6_act_35 : decode cX6_act 35 = .ok (.aload_n 1, 1) := by decide +kernel
theorem dX6_act_36 : decode cX6_act 36 = .ok (.invokevirtual 198, 3) := by decide +kernel
theorem dX6_act_39 : decode cX6_act 39 = .ok (.aload_n 0, 1) := by decide +kernel
theorem dX6_act_40 : decode cX6_act 40 = .ok (.aload_n 0, 1) := by decide +kernel
theorem dX6_act_41 : decode cX6_act 41 = .ok (.getfield 19, 3) := by decide +kernel
theorem dX6_act_44 : decode cX6_act 44 = .ok (.iconst 1, 1) := by decide +kernel
theorem dX6_act_45 : decode cX6_act 45 = .ok (.iadd, 1) := by decide +kernel
theorem dX6_act_46 : decode cX6_act 46 = .ok (.bipush 20, 2) := by decide +kernel
theorem dX6_act_48 : decode cX6_act 48 = .ok (.invokestatic 292, 3) := by decide +kernel
theorem dX6_act_51 : decode cX6_act 51 = .ok (.putfield 19, 3) := by decide +kernel
theorem dX6_act_54 : decode cX6_act 54 = .ok (.aload_n 0, 1) := by decide +kernel
theorem dX6_act_55 : decode cX6_act 55 = .ok (.iconst 0, 1) := by decide +kernel
theorem dX6_act_56 : decode cX6_act 56 = .ok (.putfield 22, 3) := by decide +kernel
theorem dX6_act_59 : decode cX6_act 59 = .ok (.aload_n 0, 1) := by decide +kernel
theorem dX6_act_60 : decode cX6_act 60 = .ok (.getfield 11, 3) := by decide +kernel
theorem dX6_act_63 : decode cX6_act 63 = .ok (.aload_n 0, 1) := by decide +kernel
theorem dX6_act_64 : decode cX6_act 64 = .ok (.getfield 15, 3) := by decide +kernel
theorem dX6_act_67 : decode cX6_act 67 = .ok (.aaload, 1) := by decide +kernel
theorem dX6_act_68 : decode cX6_act 68 = .ok (.areturn, 1) := by decide +kernel
theorem dX6_forgetActs_0 : decode cX6_forgetActs 0 = .ok (.aload_n 0, 1) := by decide +kernel
theorem dX6_forgetActs_1 : decode cX6_forgetActs 1 = .ok (.iconst 0, 1) := by decide +kernel
theorem dX6_forgetActs_2 : decode cX6_forgetActs 2 = .ok (.putfield 19, 3) := by decide +kernel
theorem dX6_forgetActs_5 : decode cX6_forgetActs 5 = .ok (.aload_n 0, 1) := by decide +kernel
theorem dX6_forgetActs_6 : decode cX6_forgetActs 6 = .ok (.iconst 0, 1) := by decide +kernel
theorem dX6_forgetActs_7 : decode cX6_forgetActs 7 = .ok (.putfield 22, 3) := by decide +kernel
theorem dX6_forgetActs_10 : decode cX6_forgetActs 10 = .ok (.return_, 1) := by decide +kernel
theorem dX6_feedFour_0 : decode cX6_feedFour 0 = .ok (.bipush 24, 2) := by decide +kernel
theorem dX6_feedFour_2 : decode cX6_feedFour 2 = .ok (.istore_n 2, 1) := by decide +kernel
theorem dX6_feedFour_3 : decode cX6_feedFour 3 = .ok (.iload_n 2, 1) := by decide +kernel
theorem dX6_feedFour_4 : decode cX6_feedFour 4 = .ok (.ifCond .lt 35, 3) := by decide +kernel
theorem dX6_feedFour_7 : decode cX6_feedFour 7 = .ok (.aload_n 0, 1) := by decide +kernel
theorem dX6_feedFour_8 : decode cX6_feedFour 8 = .ok (.getfield 48, 3) := by decide +kernel
theorem dX6_feedFour_11 : decode cX6_feedFour 11 = .ok (.aload_n 0, 1) := by decide +kernel
theorem dX6_feedFour_12 : decode cX6_feedFour 12 = .ok (.getfield 51, 3) := by decide +kernel
theorem dX6_feedFour_15 : decode cX6_feedFour 15 = .ok (.iload_n 1, 1) := by decide +kernel
theorem dX6_feedFour_16 : decode cX6_feedFour 16 = .ok (.iload_n 2, 1) := by decide +kernel
theorem dX6_feedFour_17 : decode cX6_feedFour 17 = .ok (.iushr, 1) := by decide +kernel
theorem dX6_feedFour_18 : decode cX6_feedFour 18 = .ok (.sipush 255, 3) := by decide +kernel
theorem dX6_feedFour_21 : decode cX6_feedFour 21 = .ok (.iand, 1) := by decide +kernel
theorem dX6_feedFour_22 : decode cX6_feedFour 22 = .ok (.iastore, 1) := by decide +kernel
theorem dX6_feedFour_23 : decode cX6_feedFour 23 = .ok (.aload_n 0, 1) := by decide +kernel
theorem dX6_feedFour_24 : decode cX6_feedFour 24 = .ok (.dup, 1) := by decide +kernel
theorem dX6_feedFour_25 : decode cX6_feedFour 25 = .ok (.getfield 51, 3) := by decide +kernel
theorem dX6_feedFour_28 : decode cX6_feedFour 28 = .ok (.iconst 1, 1) := by decide +kernel
theorem dX6_feedFour_29 : decode cX6_feedFour 29 = .ok (.iadd, 1) := by decide +kernel
theorem dX6_feedFour_30 : decode cX6_feedFour 30 = .ok (.putfield 51, 3) := by decide +kernel
theorem dX6_feedFour_33 : decode cX6_feedFour 33 = .ok (.iinc 2 (-8), 3) := by decide +kernel
theorem dX6_feedFour_36 : decode cX6_feedFour 36 = .ok (.goto (-33), 3) := by decide +kernel
theorem dX6_feedFour_39 : decode cX6_feedFour 39 = .ok (.return_, 1) := by decide +kernel
theorem dX6_beginTrial_0 : decode cX6_beginTrial 0 = .ok (.aload_n 0, 1) := by decide +kernel
theorem dX6_beginTrial_1 : decode cX6_beginTrial 1 = .ok (.getfield 33, 3) := by decide +kernel
theorem dX6_beginTrial_4 : decode cX6_beginTrial 4 = .ok (.aload_n 0, 1) := by decide +kernel
theorem dX6_beginTrial_5 : decode cX6_beginTrial 5 = .ok (.invokevirtual 80, 3) := by decide +kernel
theorem dX6_beginTrial_8 : decode cX6_beginTrial 8 = .ok (.invokevirtual 198, 3) := by decide +kernel
theorem dX6_beginTrial_11 : decode cX6_beginTrial 11 = .ok (.aload_n 0, 1) := by decide +kernel
theorem dX6_beginTrial_12 : decode cX6_beginTrial 12 = .ok (.invokevirtual 297, 3) := by decide +kernel
theorem dX6_beginTrial_15 : decode cX6_beginTrial 15 = .ok (.return_, 1) := by decide +kernel
theorem dX6_noteTrial_0 : decode cX6_noteTrial 0 = .ok (.aload_n 0, 1) := by decide +kernel
theorem dX6_noteTrial_1 : decode cX6_noteTrial 1 = .ok (.getfield 33, 3) := by decide +kernel
theorem dX6_noteTrial_4 : decode cX6_noteTrial 4 = .ok (.getfield 289, 3) := by decide +kernel
theorem dX6_noteTrial_7 : decode cX6_noteTrial 7 = .ok (.iconst 0, 1) := by decide +kernel
theorem dX6_noteTrial_8 : decode cX6_noteTrial 8 = .ok (.aload_n 0, 1) := by decide +kernel
theorem dX6_noteTrial_9 : decode cX6_noteTrial 9 = .ok (.getfield 37, 3) := by decide +kernel
theorem dX6_noteTrial_12 : decode cX6_noteTrial 12 = .ok (.iconst 0, 1) := by decide +kernel
theorem dX6_noteTrial_13 : decode cX6_noteTrial 13 = .ok (.bipush 6, 2) := by decide +kernel
theorem dX6_noteTrial_15 : decode cX6_noteTrial 15 = .ok (.invokestatic 300, 3) := by decide +kernel
theorem dX6_noteTrial_18 : decode cX6_noteTrial 18 = .ok (.return_, 1) := by decide +kernel
theorem dX6_onTrial_0 : decode cX6_onTrial 0 = .ok (.aload_n 0, 1) := by decide +kernel
theorem dX6_onTrial_1 : decode cX6_onTrial 1 = .ok (.getfield 33, 3) := by decide +kernel
theorem dX6_onTrial_4 : decode cX6_onTrial 4 = .ok (.getfield 289, 3) := by decide +kernel
theorem dX6_onTrial_7 : decode cX6_onTrial 7 = .ok (.iload_n 1, 1) := by decide +kernel
theorem dX6_onTrial_8 : decode cX6_onTrial 8 = .ok (.iaload, 1) := by decide +kernel
theorem dX6_onTrial_9 : decode cX6_onTrial 9 = .ok (.aload_n 0, 1) := by decide +kernel
theorem dX6_onTrial_10 : decode cX6_onTrial 10 = .ok (.getfield 37, 3) := by decide +kernel
theorem dX6_onTrial_13 : decode cX6_onTrial 13 = .ok (.iload_n 1, 1) := by decide +kernel
theorem dX6_onTrial_14 : decode cX6_onTrial 14 = .ok (.iaload, 1) := by decide +kernel
theorem dX6_onTrial_15 : decode cX6_onTrial 15 = .ok (.isub, 1) := by decide +kernel
theorem dX6_onTrial_16 : decode cX6_onTrial 16 = .ok (.ireturn, 1) := by decide +kernel
theorem dX6_beginApart_0 : decode cX6_beginApart 0 = .ok (.aload_n 0, 1) := by decide +kernel
theorem dX6_beginApart_1 : decode cX6_beginApart 1 = .ok (.getfield 33, 3) := by decide +kernel
theorem dX6_beginApart_4 : decode cX6_beginApart 4 = .ok (.aload_n 0, 1) := by decide +kernel
theorem dX6_beginApart_5 : decode cX6_beginApart 5 = .ok (.invokevirtual 80, 3) := by decide +kernel
theorem dX6_beginApart_8 : decode cX6_beginApart 8 = .ok (.invokevirtual 198, 3) := by decide +kernel
theorem dX6_beginApart_11 : decode cX6_beginApart 11 = .ok (.aload_n 0, 1) := by decide +kernel
theorem dX6_beginApart_12 : decode cX6_beginApart 12 = .ok (.getfield 33, 3) := by decide +kernel
theorem dX6_beginApart_15 : decode cX6_beginApart 15 = .ok (.ldc_w 269, 3) := by decide +kernel
theorem dX6_beginApart_18 : decode cX6_beginApart 18 = .ok (.invokevirtual 142, 3) := by decide +kernel
theorem dX6_beginApart_21 : decode cX6_beginApart 21 = .ok (.pop, 1) := by decide +kernel
theorem dX6_beginApart_22 : decode cX6_beginApart 22 = .ok (.aload_n 0, 1) := by decide +kernel
theorem dX6_beginApart_23 : decode cX6_beginApart 23 = .ok (.getfield 33, 3) := by decide +kernel
theorem dX6_beginApart_26 : decode cX6_beginApart 26 = .ok (.getfield 145, 3) := by decide +kernel
theorem dX6_beginApart_29 : decode cX6_beginApart 29 = .ok (.iconst 0, 1) := by decide +kernel
theorem dX6_beginApart_30 : decode cX6_beginApart 30 = .ok (.iload_n 1, 1) := by decide +kernel
theorem dX6_beginApart_31 : decode cX6_beginApart 31 = .ok (.iastore, 1) := by decide +kernel
theorem dX6_beginApart_32 : decode cX6_beginApart 32 = .ok (.aload_n 0, 1) := by decide +kernel
theorem dX6_beginApart_33 : decode cX6_beginApart 33 = .ok (.invokevirtual 297, 3) := by decide +kernel
theorem dX6_beginApart_36 : decode cX6_beginApart 36 = .ok (.return_, 1) := by decide +kernel
theorem dX6_runApart_0 : decode cX6_runApart 0 = .ok (.aload_n 0, 1) := by decide +kernel
theorem dX6_runApart_1 : decode cX6_runApart 1 = .ok (.iload_n 1, 1) := by decide +kernel
theorem dX6_runApart_2 : decode cX6_runApart 2 = .ok (.invokevirtual 277, 3) := by decide +kernel
theorem dX6_runApart_5 : decode cX6_runApart 5 = .ok (.aload_n 0, 1) := by decide +kernel
theorem dX6_runApart_6 : decode cX6_runApart 6 = .ok (.getfield 33, 3) := by decide +kernel
theorem dX6_runApart_9 : decode cX6_runApart 9 = .ok (.getfield 145, 3) := by decide +kernel
theorem dX6_runApart_12 : decode cX6_runApart 12 = .ok (.iconst 2, 1) := by decide +kernel
theorem dX6_runApart_13 : decode cX6_runApart 13 = .ok (.iload_n 2, 1) := by decide +kernel
theorem dX6_runApart_14 : decode cX6_runApart 14 = .ok (.iastore, 1) := by decide +kernel
theorem dX6_runApart_15 : decode cX6_runApart 15 = .ok (.aload_n 0, 1) := by decide +kernel
theorem dX6_runApart_16 : decode cX6_runApart 16 = .ok (.getfield 76, 3) := by decide +kernel
theorem dX6_runApart_19 : decode cX6_runApart 19 = .ok (.aload_n 0, 1) := by decide +kernel
theorem dX6_runApart_20 : decode cX6_runApart 20 = .ok (.getfield 33, 3) := by decide +kernel
theorem dX6_runApart_23 : decode cX6_runApart 23 = .ok (.aload_n 0, 1) := by decide +kernel
theorem dX6_runApart_24 : decode cX6_runApart 24 = .ok (.getfield 64, 3) := by decide +kernel
theorem dX6_runApart_27 : decode cX6_runApart 27 = .ok (.invokevirtual 164, 3) := by decide +kernel
theorem dX6_runApart_30 : decode cX6_runApart 30 = .ok (.aload_n 0, 1) := by decide +kernel
theorem dX6_runApart_31 : decode cX6_runApart 31 = .ok (.getfield 76, 3) := by decide +kernel
theorem dX6_runApart_34 : decode cX6_runApart 34 = .ok (.iconst 0, 1) := by decide +kernel
theorem dX6_runApart_35 : decode cX6_runApart 35 = .ok (.aload_n 0, 1) := by decide +kernel
theorem dX6_runApart_36 : decode cX6_runApart 36 = .ok (.getfield 64, 3) := by decide +kernel
theorem dX6_runApart_39 : decode cX6_runApart 39 = .ok (.getfield 158, 3) := by decide +kernel
theorem dX6_runApart_42 : decode cX6_runApart 42 = .ok (.iconst 0, 1) := by decide +kernel
theorem dX6_runApart_43 : decode cX6_runApart 43 = .ok (.invokevirtual 167, 3) := by decide +kernel
theorem dX6_runApart_46 : decode cX6_runApart 46 = .ok (.return_, 1) := by decide +kernel
theorem dX6_makeOnTrial_0 : decode cX6_makeOnTrial 0 = .ok (.iconst 0, 1) := by decide +kernel
theorem dX6_makeOnTrial_1 : decode cX6_makeOnTrial 1 = .ok (.istore 4, 2) := by decide +kernel
theorem dX6_makeOnTrial_3 : decode cX6_makeOnTrial 3 = .ok (.iload 4, 2) := by decide +kernel
theorem dX6_makeOnTrial_5 : decode cX6_makeOnTrial 5 = .ok (.iload_n 2, 1) := by decide +kernel
theorem dX6_makeOnTrial_6 : decode cX6_makeOnTrial 6 = .ok (.if_icmp .ge 42, 3) := by decide +kernel
theorem dX6_makeOnTrial_9 : decode cX6_makeOnTrial 9 = .ok (.aload_n 0, 1) := by decide +kernel
theorem dX6_makeOnTrial_10 : decode cX6_makeOnTrial 10 = .ok (.getfield 33, 3) := by decide +kernel
theorem dX6_makeOnTrial_13 : decode cX6_makeOnTrial 13 = .ok (.iconst 0, 1) := by decide +kernel
theorem dX6_makeOnTrial_14 : decode cX6_makeOnTrial 14 = .ok (.iload_n 1, 1) := by decide +kernel
theorem dX6_makeOnTrial_15 : decode cX6_makeOnTrial 15 = .ok (.invokevirtual 101, 3) := by decide +kernel
theorem dX6_makeOnTrial_18 : decode cX6_makeOnTrial 18 = .ok (.istore 5, 2) := by decide +kernel
theorem dX6_makeOnTrial_20 : decode cX6_makeOnTrial 20 = .ok (.iload 5, 2) := by decide +kernel
theorem dX6_makeOnTrial_22 : decode cX6_makeOnTrial 22 = .ok (.bipush (-2), 2) := by decide +kernel
theorem dX6_makeOnTrial_24 : decode cX6_makeOnTrial 24 = .ok (.if_icmp .eq 15, 3) := by decide +kernel
theorem dX6_makeOnTrial_27 : decode cX6_makeOnTrial 27 = .ok (.iload_n 3, 1) := by decide +kernel
theorem dX6_makeOnTrial_28 : decode cX6_makeOnTrial 28 = .ok (.ifCond .ne 14, 3) := by decide +kernel
theorem dX6_makeOnTrial_31 : decode cX6_makeOnTrial 31 = .ok (.aload_n 0, 1) := by decide +kernel
theorem dX6_makeOnTrial_32 : decode cX6_makeOnTrial 32 = .ok (.iconst 2, 1) := by decide +kernel
theorem dX6_makeOnTrial_33 : decode cX6_makeOnTrial 33 = .ok (.invokevirtual 178, 3) := by decide +kernel
theorem dX6_makeOnTrial_36 : decode cX6_makeOnTrial 36 = .ok (.ifCond .le 6, 3) := by decide +kernel
theorem dX6_makeOnTrial_39 : decode cX6_makeOnTrial 39 = .ok (.iload 4, 2) := by decide +kernel
theorem dX6_makeOnTrial_41 : decode cX6_makeOnTrial 41 = .ok (.ireturn, 1) := by decide +kernel
theorem dX6_makeOnTrial_42 : decode cX6_makeOnTrial 42 = .ok (.iinc 4 1, 3) := by decide +kernel
theorem dX6_makeOnTrial_45 : decode cX6_makeOnTrial 45 = .ok (.goto (-42), 3) := by decide +kernel
theorem dX6_makeOnTrial_48 : decode cX6_makeOnTrial 48 = .ok (.iload_n 2, 1) := by decide +kernel
theorem dX6_makeOnTrial_49 : decode cX6_makeOnTrial 49 = .ok (.ireturn, 1) := by decide +kernel
theorem dX6_playOnTrial_0 : decode cX6_playOnTrial 0 = .ok (.iload_n 1, 1) := by decide +kernel
theorem dX6_playOnTrial_1 : decode cX6_playOnTrial 1 = .ok (.istore_n 3, 1) := by decide +kernel
theorem dX6_playOnTrial_2 : decode cX6_playOnTrial 2 = .ok (.iconst 0, 1) := by decide +kernel
theorem dX6_playOnTrial_3 : decode cX6_playOnTrial 3 = .ok (.istore 4, 2) := by decide +kernel
theorem dX6_playOnTrial_5 : decode cX6_playOnTrial 5 = .ok (.iload 4, 2) := by decide +kernel
theorem dX6_playOnTrial_7 : decode cX6_playOnTrial 7 = .ok (.iload_n 2, 1) := by decide +kernel
theorem dX6_playOnTrial_8 : decode cX6_playOnTrial 8 = .ok (.if_icmp .ge 151, 3) := by decide +kernel
theorem dX6_playOnTrial_11 : decode cX6_playOnTrial 11 = .ok (.iload_n 3, 1) := by decide +kernel
theorem dX6_playOnTrial_12 : decode cX6_playOnTrial 12 = .ok (.invokestatic 306, 3) := by decide +kernel
theorem dX6_playOnTrial_15 : decode cX6_playOnTrial 15 = .ok (.istore_n 3, 1) := by decide +kernel
theorem dX6_playOnTrial_16 : decode cX6_playOnTrial 16 = .ok (.iload_n 3, 1) := by decide +kernel
theorem dX6_playOnTrial_17 : decode cX6_playOnTrial 17 = .ok (.bipush 8, 2) := by decide +kernel
theorem dX6_playOnTrial_19 : decode cX6_playOnTrial 19 = .ok (.irem, 1) := by decide +kernel
theorem dX6_playOnTrial_20 : decode cX6_playOnTrial 20 = .ok (.istore 5, 2) := by decide +kernel
theorem dX6_playOnTrial_22 : decode cX6_playOnTrial 22 = .ok (.iload_n 3, 1) := by decide +kernel
theorem dX6_playOnTrial_23 : decode cX6_playOnTrial 23 = .ok (.invokestatic 306, 3) := by decide +kernel
theorem dX6_playOnTrial_26 : decode cX6_playOnTrial 26 = .ok (.istore_n 3, 1) := by decide +kernel
theorem dX6_playOnTrial_27 : decode cX6_playOnTrial 27 = .ok (.iload_n 3, 1) := by decide +kernel
theorem dX6_playOnTrial_28 : decode cX6_playOnTrial 28 = .ok (.bipush 6, 2) := by decide +kernel
theorem dX6_playOnTrial_30 : decode cX6_playOnTrial 30 = .ok (.irem, 1) := by decide +kernel
theorem dX6_playOnTrial_31 : decode cX6_playOnTrial 31 = .ok (.istore 6, 2) := by decide +kernel
theorem dX6_playOnTrial_33 : decode cX6_playOnTrial 33 = .ok (.iload_n 3, 1) := by decide +kernel
theorem dX6_playOnTrial_34 : decode cX6_playOnTrial 34 = .ok (.invokestatic 306, 3) := by decide +kernel
theorem dX6_playOnTrial_37 : decode cX6_playOnTrial 37 = .ok (.istore_n 3, 1) := by decide +kernel
theorem dX6_playOnTrial_38 : decode cX6_playOnTrial 38 = .ok (.iload_n 3, 1) := by decide +kernel
theorem dX6_playOnTrial_39 : decode cX6_playOnTrial 39 = .ok (.bipush 6, 2) := by decide +kernel
theorem dX6_playOnTrial_41 : decode cX6_playOnTrial 41 = .ok (.irem, 1) := by decide +kernel
theorem dX6_playOnTrial_42 : decode cX6_playOnTrial 42 = .ok (.istore 7, 2) := by decide +kernel
theorem dX6_playOnTrial_44 : decode cX6_playOnTrial 44 = .ok (.iload_n 3, 1) := by decide +kernel
theorem dX6_playOnTrial_45 : decode cX6_playOnTrial 45 = .ok (.invokestatic 306, 3) := by decide +kernel
theorem dX6_playOnTrial_48 : decode cX6_playOnTrial 48 = .ok (.istore_n 3, 1) := by decide +kernel
theorem dX6_playOnTrial_49 : decode cX6_playOnTrial 49 = .ok (.iload_n 3, 1) := by decide +kernel
theorem dX6_playOnTrial_50 : decode cX6_playOnTrial 50 = .ok (.bipush 6, 2) := by decide +kernel
theorem dX6_playOnTrial_52 : decode cX6_playOnTrial 52 = .ok (.irem, 1) := by decide +kernel
theorem dX6_playOnTrial_53 : decode cX6_playOnTrial 53 = .ok (.istore 8, 2) := by decide +kernel
theorem dX6_playOnTrial_55 : decode cX6_playOnTrial 55 = .ok (.iload 5, 2) := by decide +kernel
theorem dX6_playOnTrial_57 : decode cX6_playOnTrial 57 = .ok (.iconst 2, 1) := by decide +kernel
theorem dX6_playOnTrial_58 : decode cX6_playOnTrial 58 = .ok (.if_icmp .gt 18, 3) := by decide +kernel
theorem dX6_playOnTrial_61 : decode cX6_playOnTrial 61 = .ok (.aload_n 0, 1) := by decide +kernel
theorem dX6_playOnTrial_62 : decode cX6_playOnTrial 62 = .ok (.getfield 33, 3) := by decide +kernel
theorem dX6_playOnTrial_65 : decode cX6_playOnTrial 65 = .ok (.iload 6, 2) := by decide +kernel
theorem dX6_playOnTrial_67 : decode cX6_playOnTrial 67 = .ok (.iload 8, 2) := by decide +kernel
theorem dX6_playOnTrial_69 : decode cX6_playOnTrial 69 = .ok (.invokevirtual 101, 3) := by decide +kernel
theorem dX6_playOnTrial_72 : decode cX6_playOnTrial 72 = .ok (.pop, 1) := by decide +kernel
theorem dX6_playOnTrial_73 : decode cX6_playOnTrial 73 = .ok (.goto 80, 3) := by decide +kernel
theorem dX6_playOnTrial_76 : decode cX6_playOnTrial 76 = .ok (.iload 5, 2) := by decide +kernel
theorem dX6_playOnTrial_78 : decode cX6_playOnTrial 78 = .ok (.iconst 3, 1) := by decide +kernel
theorem dX6_playOnTrial_79 : decode cX6_playOnTrial 79 = .ok (.if_icmp .ne 20, 3) := by decide +kernel
theorem dX6_playOnTrial_82 : decode cX6_playOnTrial 82 = .ok (.aload_n 0, 1) := by decide +kernel
theorem dX6_playOnTrial_83 : decode cX6_playOnTrial 83 = .ok (.getfield 33, 3) := by decide +kernel
theorem dX6_playOnTrial_86 : decode cX6_playOnTrial 86 = .ok (.iload 6, 2) := by decide +kernel
theorem dX6_playOnTrial_88 : decode cX6_playOnTrial 88 = .ok (.iload 7, 2) := by decide +kernel
theorem dX6_playOnTrial_90 : decode cX6_playOnTrial 90 = .ok (.iload 8, 2) := by decide +kernel
theorem dX6_playOnTrial_92 : decode cX6_playOnTrial 92 = .ok (.invokevirtual 108, 3) := by decide +kernel
theorem dX6_playOnTrial_95 : decode cX6_playOnTrial 95 = .ok (.pop, 1) := by decide +kernel
theorem dX6_playOnTrial_96 : decode cX6_playOnTrial 96 = .ok (.goto 57, 3) := by decide +kernel
theorem dX6_playOnTrial_99 : decode cX6_playOnTrial 99 = .ok (.iload 5, 2) := by decide +kernel
theorem dX6_playOnTrial_101 : decode cX6_playOnTrial 101 = .ok (.iconst 5, 1) := by decide +kernel
theorem dX6_playOnTrial_102 : decode cX6_playOnTrial 102 = .ok (.if_icmp .gt 20, 3) := by decide +kernel
theorem dX6_playOnTrial_105 : decode cX6_playOnTrial 105 = .ok (.aload_n 0, 1) := by decide +kernel
theorem dX6_playOnTrial_106 : decode cX6_playOnTrial 106 = .ok (.getfield 33, 3) := by decide +kernel
theorem dX6_playOnTrial_109 : decode cX6_playOnTrial 109 = .ok (.iload 6, 2) := by decide +kernel
theorem dX6_playOnTrial_111 : decode cX6_playOnTrial 111 = .ok (.iload 8, 2) := by decide +kernel
theorem dX6_playOnTrial_113 : decode cX6_playOnTrial 113 = .ok (.iload 7, 2) := by decide +kernel
theorem dX6_playOnTrial_115 : decode cX6_playOnTrial 115 = .ok (.invokevirtual 115, 3) := by decide +kernel
theorem dX6_playOnTrial_118 : decode cX6_playOnTrial 118 = .ok (.pop, 1) := by decide +kernel
theorem dX6_playOnTrial_119 : decode cX6_playOnTrial 119 = .ok (.goto 34, 3) := by decide +kernel
theorem dX6_playOnTrial_122 : decode cX6_playOnTrial 122 = .ok (.aload_n 0, 1) := by decide +kernel
theorem dX6_playOnTrial_123 : decode cX6_playOnTrial 123 = .ok (.getfield 33, 3) := by decide +kernel
theorem dX6_playOnTrial_126 : decode cX6_playOnTrial 126 = .ok (.getfield 119, 3) := by decide +kernel
theorem dX6_playOnTrial_129 : decode cX6_playOnTrial 129 = .ok (.iload 6, 2) := by decide +kernel
theorem dX6_playOnTrial_131 : decode cX6_playOnTrial 131 = .ok (.iload 5, 2) := by decide +kernel
theorem dX6_playOnTrial_133 : decode cX6_playOnTrial 133 = .ok (.bipush 6, 2) := by decide +kernel
theorem dX6_playOnTrial_135 : decode cX6_playOnTrial 135 = .ok (.if_icmp .ne 16, 3) := by decide +kernel
theorem dX6_playOnTrial_138 : decode cX6_playOnTrial 138 = .ok (.aload_n 0, 1) := by decide +kernel
theorem dX6_playOnTrial_139 : decode cX6_playOnTrial 139 = .ok (.getfield 33, 3) := by decide +kernel
theorem dX6_playOnTrial_142 : decode cX6_playOnTrial 142 = .ok (.getfield 119, 3) := by decide +kernel
theorem dX6_playOnTrial_145 : decode cX6_playOnTrial 145 = .ok (.iload 7, 2) := by decide +kernel
theorem dX6_playOnTrial_147 : decode cX6_playOnTrial 147 = .ok (.iaload, 1) := by decide +kernel
theorem dX6_playOnTrial_148 : decode cX6_playOnTrial 148 = .ok (.goto 4, 3) := by decide +kernel
theorem dX6_playOnTrial_151 : decode cX6_playOnTrial 151 = .ok (.iconst (-1), 1) := by decide +kernel
theorem dX6_playOnTrial_152 : decode cX6_playOnTrial 152 = .ok (.iastore, 1) := by decide +kernel
theorem dX6_playOnTrial_153 : decode cX6_playOnTrial 153 = .ok (.iinc 4 1, 3) := by decide +kernel
theorem dX6_playOnTrial_156 : decode cX6_playOnTrial 156 = .ok (.goto (-151), 3) := by decide +kernel
theorem dX6_playOnTrial_159 : decode cX6_playOnTrial 159 = .ok (.return_, 1) := by decide +kernel
theorem dX6_drawn_0 : decode cX6_drawn 0 = .ok (.sipush 137, 3) := by decide +kernel
theorem dX6_drawn_3 : decode cX6_drawn 3 = .ok (.iload_n 0, 1) := by decide +kernel
theorem dX6_drawn_4 : decode cX6_drawn 4 = .ok (.imul, 1) := by decide +kernel
theorem dX6_drawn_5 : decode cX6_drawn 5 = .ok (.bipush 71, 2) := by decide +kernel
theorem dX6_drawn_7 : decode cX6_drawn 7 = .ok (.iadd, 1) := by decide +kernel
theorem dX6_drawn_8 : decode cX6_drawn 8 = .ok (.sipush 10007, 3) := by decide +kernel
theorem dX6_drawn_11 : decode cX6_drawn 11 = .ok (.irem, 1) := by decide +kernel
theorem dX6_drawn_12 : decode cX6_drawn 12 = .ok (.ireturn, 1) := by decide +kernel
theorem dX6_isRoot_0 : decode cX6_isRoot 0 = .ok (.iload_n 0, 1) := by decide +kernel
theorem dX6_isRoot_1 : decode cX6_isRoot 1 = .ok (.ifCond .lt 13, 3) := by decide +kernel
theorem dX6_isRoot_4 : decode cX6_isRoot 4 = .ok (.iload_n 0, 1) := by decide +kernel
theorem dX6_isRoot_5 : decode cX6_isRoot 5 = .ok (.bipush 6, 2) := by decide +kernel
theorem dX6_isRoot_7 : decode cX6_isRoot 7 = .ok (.if_icmp .ge 7, 3) := by decide +kernel
theorem dX6_isRoot_10 : decode cX6_isRoot 10 = .ok (.iconst 1, 1) := by decide +kernel
theorem dX6_isRoot_11 : decode cX6_isRoot 11 = .ok (.goto 4, 3) := by decide +kernel
theorem dX6_isRoot_14 : decode cX6_isRoot 14 = .ok (.iconst 0, 1) := by decide +kernel
theorem dX6_isRoot_15 : decode cX6_isRoot 15 = .ok (.ireturn, 1) := by decide +kernel
theorem dX6_isRootOrNone_0 : decode cX6_isRootOrNone 0 = .ok (.iload_n 0, 1) := by decide +kernel
theorem dX6_isRootOrNone_1 : decode cX6_isRootOrNone 1 = .ok (.iconst (-1), 1) := by decide +kernel
theorem dX6_isRootOrNone_2 : decode cX6_isRootOrNone 2 = .ok (.if_icmp .eq 10, 3) := by decide +kernel
theorem dX6_isRootOrNone_5 : decode cX6_isRootOrNone 5 = .ok (.iload_n 0, 1) := by decide +kernel
theorem dX6_isRootOrNone_6 : decode cX6_isRootOrNone 6 = .ok (.invokestatic 91, 3) := by decide +kernel
theorem dX6_isRootOrNone_9 : decode cX6_isRootOrNone 9 = .ok (.ifCond .eq 7, 3) := by decide +kernel
theorem dX6_isRootOrNone_12 : decode cX6_isRootOrNone 12 = .ok (.iconst 1, 1) := by decide +kernel
theorem dX6_isRootOrNone_13 : decode cX6_isRootOrNone 13 = .ok (.goto 4, 3) := by decide +kernel
theorem dX6_isRootOrNone_16 : decode cX6_isRootOrNone 16 = .ok (.iconst 0, 1) := by decide +kernel
theorem dX6_isRootOrNone_17 : decode cX6_isRootOrNone 17 = .ok (.ireturn, 1) := by decide +kernel
theorem dX6_isWeak_0 : decode cX6_isWeak 0 = .ok (.iload_n 0, 1) := by decide +kernel
theorem dX6_isWeak_1 : decode cX6_isWeak 1 = .ok (.ifCond .lt 12, 3) := by decide +kernel
theorem dX6_isWeak_4 : decode cX6_isWeak 4 = .ok (.iload_n 0, 1) := by decide +kernel
theorem dX6_isWeak_5 : decode cX6_isWeak 5 = .ok (.iconst 4, 1) := by decide +kernel
theorem dX6_isWeak_6 : decode cX6_isWeak 6 = .ok (.if_icmp .ge 7, 3) := by decide +kernel
theorem dX6_isWeak_9 : decode cX6_isWeak 9 = .ok (.iconst 1, 1) := by decide +kernel
theorem dX6_isWeak_10 : decode cX6_isWeak 10 = .ok (.goto 4, 3) := by decide +kernel
theorem dX6_isWeak_13 : decode cX6_isWeak 13 = .ok (.iconst 0, 1) := by decide +kernel
theorem dX6_isWeak_14 : decode cX6_isWeak 14 = .ok (.ireturn, 1) := by decide +kernel
theorem dX6_isFieldCount_0 : decode cX6_isFieldCount 0 = .ok (.iload_n 0, 1) := by decide +kernel
theorem dX6_isFieldCount_1 : decode cX6_isFieldCount 1 = .ok (.ifCond .lt 13, 3) := by decide +kernel
theorem dX6_isFieldCount_4 : decode cX6_isFieldCount 4 = .ok (.iload_n 0, 1) := by decide +kernel
theorem dX6_isFieldCount_5 : decode cX6_isFieldCount 5 = .ok (.bipush 7, 2) := by decide +kernel
theorem dX6_isFieldCount_7 : decode cX6_isFieldCount 7 = .ok (.if_icmp .gt 7, 3) := by decide +kernel
theorem dX6_isFieldCount_10 : decode cX6_isFieldCount 10 = .ok (.iconst 1, 1) := by decide +kernel
theorem dX6_isFieldCount_11 : decode cX6_isFieldCount 11 = .ok (.goto 4, 3) := by decide +kernel
theorem dX6_isFieldCount_14 : decode cX6_isFieldCount 14 = .ok (.iconst 0, 1) := by decide +kernel
theorem dX6_isFieldCount_15 : decode cX6_isFieldCount 15 = .ok (.ireturn, 1) := by decide +kernel
theorem dX6_isSize_0 : decode cX6_isSize 0 = .ok (.iload_n 0, 1) := by decide +kernel
theorem dX6_isSize_1 : decode cX6_isSize 1 = .ok (.iconst 2, 1) := by decide +kernel
theorem dX6_isSize_2 : decode cX6_isSize 2 = .ok (.if_icmp .eq 14, 3) := by decide +kernel
theorem dX6_isSize_5 : decode cX6_isSize 5 = .ok (.iload_n 0, 1) := by decide +kernel
theorem dX6_isSize_6 : decode cX6_isSize 6 = .ok (.iconst 4, 1) := by decide +kernel
theorem dX6_isSize_7 : decode cX6_isSize 7 = .ok (.if_icmp .eq 9, 3) := by decide +kernel
theorem dX6_isSize_10 : decode cX6_isSize 10 = .ok (.iload_n 0, 1) := by decide +kernel
theorem dX6_isSize_11 : decode cX6_isSize 11 = .ok (.bipush 8, 2) := by decide +kernel
theorem dX6_isSize_13 : decode cX6_isSize 13 = .ok (.if_icmp .ne 7, 3) := by decide +kernel
theorem dX6_isSize_16 : decode cX6_isSize 16 = .ok (.iconst 1, 1) := by decide +kernel
theorem dX6_isSize_17 : decode cX6_isSize 17 = .ok (.goto 4, 3) := by decide +kernel
theorem dX6_isSize_20 : decode cX6_isSize 20 = .ok (.iconst 0, 1) := by decide +kernel
theorem dX6_isSize_21 : decode cX6_isSize 21 = .ok (.ireturn, 1) := by decide +kernel
theorem dX7_init_0 : decode cX7_init 0 = .ok (.aload_n 0, 1) := by decide +kernel
theorem dX7_init_1 : decode cX7_init 1 = .ok (.invokespecial 1, 3) := by decide +kernel
theorem dX7_init_4 : decode cX7_init 4 = .ok (.aload_n 0, 1) := by decide +kernel
theorem dX7_init_5 : decode cX7_init 5 = .ok (.sipush 790, 3) := by decide +kernel
theorem dX7_init_8 : decode cX7_init 8 = .ok (.newarray .int, 2) := by decide +kernel
theorem dX7_init_10 : decode cX7_init 10 = .ok (.putfield 7, 3) := by decide +kernel
theorem dX7_init_13 : decode cX7_init 13 = .ok (.aload_n 0, 1) := by decide +kernel
theorem dX7_init_14 : decode cX7_init 14 = .ok (.sipush 128, 3) := by decide +kernel
theorem dX7_init_17 : decode cX7_init 17 = .ok (.newarray .boolean, 2) := by decide +kernel
theorem dX7_init_19 : decode cX7_init 19 = .ok (.putfield 13, 3) := by decide +kernel
theorem dX7_init_22 : decode cX7_init 22 = .ok (.aload_n 0, 1) := by decide +kernel
theorem dX7_init_23 : decode cX7_init 23 = .ok (.sipush 128, 3) := by decide +kernel
theorem dX7_init_26 : decode cX7_init 26 = .ok (.newarray .boolean, 2) := by decide +kernel
theorem dX7_init_28 : decode cX7_init 28 = .ok (.putfield 17, 3) := by decide +kernel
theorem dX7_init_31 : decode cX7_init 31 = .ok (.aload_n 0, 1) := by decide +kernel
theorem dX7_init_32 : decode cX7_init 32 = .ok (.sipush 128, 3) := by decide +kernel
theorem dX7_init_35 : decode cX7_init 35 = .ok (.newarray .int, 2) := by decide +kernel
theorem dX7_init_37 : decode cX7_init 37 = .ok (.putfield 20, 3) := by decide +kernel
theorem dX7_init_40 : decode cX7_init 40 = .ok (.aload_n 0, 1) := by decide +kernel
theorem dX7_init_41 : decode cX7_init 41 = .ok (.sipush 128, 3) := by decide +kernel
theorem dX7_init_44 : decode cX7_init 44 = .ok (.newarray .int, 2) := by decide +kernel
theorem dX7_init_46 : decode cX7_init 46 = .ok (.putfield 23, 3) := by decide +kernel
theorem dX7_init_49 : decode cX7_init 49 = .ok (.aload_n 0, 1) := by decide +kernel
theorem dX7_init_50 : decode cX7_init 50 = .ok (.sipush 790, 3) := by decide +kernel
theorem dX7_init_53 : decode cX7_init 53 = .ok (.newarray .int, 2) := by decide +kernel
theorem dX7_init_55 : decode cX7_init 55 = .ok (.putfield 26, 3) := by decide +kernel
theorem dX7_init_58 : decode cX7_init 58 = .ok (.aload_n 0, 1) := by decide +kernel
theorem dX7_init_59 : decode cX7_init 59 = .ok (.sipush 790, 3) := by decide +kernel
theorem dX7_init_62 : decode cX7_init 62 = .ok (.newarray .int, 2) := by decide +kernel
theorem dX7_init_64 : decode cX7_init 64 = .ok (.putfield 29, 3) := by decide +kernel
theorem dX7_init_67 : decode cX7_init 67 = .ok (.aload_n 0, 1) := by decide +kernel
theorem dX7_init_68 : decode cX7_init 68 = .ok (.sipush 400, 3) := by decide +kernel
theorem dX7_init_71 : decode cX7_init 71 = .ok (.newarray .int, 2) := by decide +kernel
theorem dX7_init_73 : decode cX7_init 73 = .ok (.putfield 32, 3) := by decide +kernel
theorem dX7_init_76 : decode cX7_init 76 = .ok (.aload_n 0, 1) := by decide +kernel
theorem dX7_init_77 : decode cX7_init 77 = .ok (.bipush 41, 2) := by decide +kernel
theorem dX7_init_79 : decode cX7_init 79 = .ok (.newarray .int, 2) := by decide +kernel
theorem dX7_init_81 : decode cX7_init 81 = .ok (.putfield 35, 3) := by decide +kernel
theorem dX7_init_84 : decode cX7_init 84 = .ok (.aload_n 0, 1) := by decide +kernel
theorem dX7_init_85 : decode cX7_init 85 = .ok (.bipush 41, 2) := by decide +kernel
theorem dX7_init_87 : decode cX7_init 87 = .ok (.newarray .int, 2) := by decide +kernel
theorem dX7_init_89 : decode cX7_init 89 = .ok (.putfield 38, 3) := by decide +kernel
theorem dX7_init_92 : decode cX7_init 92 = .ok (.aload_n 0, 1) := by decide +kernel
theorem dX7_init_93 : decode cX7_init 93 = .ok (.bipush 41, 2) := by decide +kernel
theorem dX7_init_95 : decode cX7_init 95 = .ok (.newarray .int, 2) := by decide +kernel
theorem dX7_init_97 : decode cX7_init 97 = .ok (.putfield 41, 3) := by decide +kernel
theorem dX7_init_100 : decode cX7_init 100 = .ok (.aload_n 0, 1) := by decide +kernel
theorem dX7_init_101 : decode cX7_init 101 = .ok (.bipush 41, 2) := by decide +kernel
theorem dX7_init_103 : decode cX7_init 103 = .ok (.newarray .int, 2) := by decide +kernel
theorem dX7_init_105 : decode cX7_init 105 = .ok (.putfield 44, 3) := by decide +kernel
theorem dX7_init_108 : decode cX7_init 108 = .ok (.aload_n 0, 1) := by decide +kernel
theorem dX7_init_109 : decode cX7_init 109 = .ok (.bipush 41, 2) := by decide +kernel
theorem dX7_init_111 : decode cX7_init 111 = .ok (.newarray .int, 2) := by decide +kernel
theorem dX7_init_113 : decode cX7_init 113 = .ok (.putfield 47, 3) := by decide +kernel
theorem dX7_init_116 : decode cX7_init 116 = .ok (.aload_n 0, 1) := by decide +kernel
theorem dX7_init_117 : decode cX7_init 117 = .ok (.bipush 41, 2) := by decide +kernel
theorem dX7_init_119 : decode cX7_init 119 = .ok (.newarray .int, 2) := by decide +kernel
theorem dX7_init_121 : decode cX7_init 121 = .ok (.putfield 50, 3) := by decide +kernel
theorem dX7_init_124 : decode cX7_init 124 = .ok (.aload_n 0, 1) := by decide +kernel
theorem dX7_init_125 : decode cX7_init 125 = .ok (.bipush 41, 2) := by decide +kernel
theorem dX7_init_127 : decode cX7_init 127 = .ok (.newarray .int, 2) := by decide +kernel
theorem dX7_init_129 : decode cX7_init 129 = .ok (.putfield 53, 3) := by decide +kernel
theorem dX7_init_132 : decode cX7_init 132 = .ok (.aload_n 0, 1) := by decide +kernel
theorem dX7_init_133 : decode cX7_init 133 = .ok (.bipush 41, 2) := by decide +kernel
theorem dX7_init_135 : decode cX7_init 135 = .ok (.newarray .int, 2) := by decide +kernel
theorem dX7_init_137 : decode cX7_init 137 = .ok (.putfield 56, 3) := by decide +kernel
theorem dX7_init_140 : decode cX7_init 140 = .ok (.aload_n 0, 1) := by decide +kernel
theorem dX7_init_141 : decode cX7_init 141 = .ok (.bipush 41, 2) := by decide +kernel
theorem dX7_init_143 : decode cX7_init 143 = .ok (.newarray .int, 2) := by decide +kernel
theorem dX7_init_145 : decode cX7_init 145 = .ok (.putfield 59, 3) := by decide +kernel
theorem dX7_init_148 : decode cX7_init 148 = .ok (.aload_n 0, 1) := by decide +kernel
theorem dX7_init_149 : decode cX7_init 149 = .ok (.bipush 41, 2) := by decide +kernel
theorem dX7_init_151 : decode cX7_init 151 = .ok (.newarray .int, 2) := by decide +kernel
theorem dX7_init_153 : decode cX7_init 153 = .ok (.putfield 62, 3) := by decide +kernel
theorem dX7_init_156 : decode cX7_init 156 = .ok (.aload_n 0, 1) := by decide +kernel
theorem dX7_init_157 : decode cX7_init 157 = .ok (.iconst (-1), 1) := by decide +kernel
theorem dX7_init_158 : decode cX7_init 158 = .ok (.putfield 65, 3) := by decide +kernel
theorem dX7_init_161 : decode cX7_init 161 = .ok (.aload_n 0, 1) := by decide +kernel
theorem dX7_init_162 : decode cX7_init 162 = .ok (.iconst 5, 1) := by decide +kernel
theorem dX7_init_163 : decode cX7_init 163 = .ok (.newarray .int, 2) := by decide +kernel
theorem dX7_init_165 : decode cX7_init 165 = .ok (.putfield 69, 3) := by decide +kernel
theorem dX7_init_168 : decode cX7_init 168 = .ok (.aload_n 0, 1) := by decide +kernel
theorem dX7_init_169 : decode cX7_init 169 = .ok (.iconst 5, 1) := by decide +kernel
theorem dX7_init_170 : decode cX7_init 170 = .ok (.newarray .int, 2) := by decide +kernel
theorem dX7_init_172 : decode cX7_init 172 = .ok (.putfield 72, 3) := by decide +kernel
theorem dX7_init_175 : decode cX7_init 175 = .ok (.aload_n 0, 1) := by decide +kernel
theorem dX7_init_176 : decode cX7_init 176 = .ok (.iconst 5, 1) := by decide +kernel
theorem dX7_init_177 : decode cX7_init 177 = .ok (.newarray .int, 2) := by decide +kernel
theorem dX7_init_179 : decode cX7_init 179 = .ok (.putfield 75, 3) := by decide +kernel
theorem dX7_init_182 : decode cX7_init 182 = .ok (.aload_n 0, 1) := by decide +kernel
theorem dX7_init_183 : decode cX7_init 183 = .ok (.iconst 5, 1) := by decide +kernel
theorem dX7_init_184 : decode cX7_init 184 = .ok (.newarray .int, 2) := by decide +kernel
theorem dX7_init_186 : decode cX7_init 186 = .ok (.putfield 78, 3) := by decide +kernel
theorem dX7_init_189 : decode cX7_init 189 = .ok (.aload_n 0, 1) := by decide +kernel
theorem dX7_init_190 : decode cX7_init 190 = .ok (.sipush 16590, 3) := by decide +kernel
theorem dX7_init_193 : decode cX7_init 193 = .ok (.newarray .int, 2) := by decide +kernel
theorem dX7_init_195 : decode cX7_init 195 = .ok (.putfield 81, 3) := by decide +kernel
theorem dX7_init_198 : decode cX7_init 198 = .ok (.aload_n 0, 1) := by decide +kernel
theorem dX7_init_199 : decode cX7_init 199 = .ok (.sipush 1580, 3) := by decide +kernel
theorem dX7_init_202 : decode cX7_init 202 = .ok (.newarray .int, 2) := by decide +kernel
theorem dX7_init_204 : decode cX7_init 204 = .ok (.putfield 84, 3) := by decide +kernel
theorem dX7_init_207 : decode cX7_init 207 = .ok (.aload_n 0, 1) := by decide +kernel
theorem dX7_init_208 : decode cX7_init 208 = .ok (.iconst 2, 1) := by decide +kernel
theorem dX7_init_209 : decode cX7_init 209 = .ok (.newarray .boolean, 2) := by decide +kernel
theorem dX7_init_211 : decode cX7_init 211 = .ok (.putfield 87, 3) := by decide +kernel
theorem dX7_init_214 : decode cX7_init 214 = .ok (.aload_n 0, 1) := by decide +kernel
theorem dX7_init_215 : decode cX7_init 215 = .ok (.bipush 8, 2) := by decide +kernel
theorem dX7_init_217 : decode cX7_init 217 = .ok (.invokevirtual 90, 3) := by decide +kernel
theorem dX7_init_220 : decode cX7_init 220 = .ok (.return_, 1) := by decide +kernel
theorem dX7_beginAnew_0 : decode cX7_beginAnew 0 = .ok (.iconst 0, 1) := by decide +kernel
theorem dX7_beginAnew_1 : decode cX7_beginAnew 1 = .ok (.istore_n 2, 1) := by decide +kernel
theorem dX7_beginAnew_2 : decode cX7_beginAnew 2 = .ok (.iload_n 2, 1) := by decide +kernel
theorem dX7_beginAnew_3 : decode cX7_beginAnew 3 = .ok (.sipush 790, 3) := by decide +kernel
