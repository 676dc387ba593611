theorem dX7_readBlock_61 : decode cX7_readBlock 61 = .ok (.iload_n 1, 1) := by decide +kernel
theorem dX7_readBlock_62 : decode cX7_readBlock 62 = .ok (.ifCond .eq 8, 3) := by decide +kernel
theorem dX7_readBlock_65 : decode cX7_readBlock 65 = .ok (.bipush 7, 2) := by decide +kernel
theorem dX7_readBlock_67 : decode cX7_readBlock 67 = .ok (.goto 5, 3) := by decide +kernel
theorem dX7_readBlock_70 : decode cX7_readBlock 70 = .ok (.bipush 8, 2) := by decide +kernel
theorem dX7_readBlock_72 : decode cX7_readBlock 72 = .ok (.iload_n 2, 1) := by decide +kernel
theorem dX7_readBlock_73 : decode cX7_readBlock 73 = .ok (.iconst 0, 1) := by decide +kernel
theorem dX7_readBlock_74 : decode cX7_readBlock 74 = .ok (.iconst 0, 1) := by decide +kernel
theorem dX7_readBlock_75 : decode cX7_readBlock 75 = .ok (.invokevirtual 410, 3) := by decide +kernel
theorem dX7_readBlock_78 : decode cX7_readBlock 78 = .ok (.return_, 1) := by decide +kernel
theorem dX7_readDeed_0 : decode cX7_readDeed 0 = .ok (.aload_n 0, 1) := by decide +kernel
theorem dX7_readDeed_1 : decode cX7_readDeed 1 = .ok (.invokevirtual 414, 3) := by decide +kernel
theorem dX7_readDeed_4 : decode cX7_readDeed 4 = .ok (.istore_n 1, 1) := by decide +kernel
theorem dX7_readDeed_5 : decode cX7_readDeed 5 = .ok (.aload_n 0, 1) := by decide +kernel
theorem dX7_readDeed_6 : decode cX7_readDeed 6 = .ok (.bipush 46, 2) := by decide +kernel
theorem dX7_readDeed_8 : decode cX7_readDeed 8 = .ok (.invokevirtual 368, 3) := by decide +kernel
theorem dX7_readDeed_11 : decode cX7_readDeed 11 = .ok (.ifCond .eq 15, 3) := by decide +kernel
theorem dX7_readDeed_14 : decode cX7_readDeed 14 = .ok (.aload_n 0, 1) := by decide +kernel
theorem dX7_readDeed_15 : decode cX7_readDeed 15 = .ok (.invokevirtual 371, 3) := by decide +kernel
theorem dX7_readDeed_18 : decode cX7_readDeed 18 = .ok (.aload_n 0, 1) := by decide +kernel
theorem dX7_readDeed_19 : decode cX7_readDeed 19 = .ok (.iload_n 1, 1) := by decide +kernel
theorem dX7_readDeed_20 : decode cX7_readDeed 20 = .ok (.invokevirtual 417, 3) := by decide +kernel
theorem dX7_readDeed_23 : decode cX7_readDeed 23 = .ok (.goto 14, 3) := by decide +kernel
theorem dX7_readDeed_26 : decode cX7_readDeed 26 = .ok (.aload_n 0, 1) := by decide +kernel
theorem dX7_readDeed_27 : decode cX7_readDeed 27 = .ok (.bipush 61, 2) := by decide +kernel
theorem dX7_readDeed_29 : decode cX7_readDeed 29 = .ok (.invokevirtual 407, 3) := by decide +kernel
theorem dX7_readDeed_32 : decode cX7_readDeed 32 = .ok (.aload_n 0, 1) := by decide +kernel
theorem dX7_readDeed_33 : decode cX7_readDeed 33 = .ok (.iload_n 1, 1) := by decide +kernel
theorem dX7_readDeed_34 : decode cX7_readDeed 34 = .ok (.invokevirtual 420, 3) := by decide +kernel
theorem dX7_readDeed_37 : decode cX7_readDeed 37 = .ok (.aload_n 0, 1) := by decide +kernel
theorem dX7_readDeed_38 : decode cX7_readDeed 38 = .ok (.bipush 59, 2) := by decide +kernel
theorem dX7_readDeed_40 : decode cX7_readDeed 40 = .ok (.invokevirtual 407, 3) := by decide +kernel
theorem dX7_readDeed_43 : decode cX7_readDeed 43 = .ok (.return_, 1) := by decide +kernel
theorem dX7_readStore_0 : decode cX7_readStore 0 = .ok (.aload_n 0, 1) := by decide +kernel
theorem dX7_readStore_1 : decode cX7_readStore 1 = .ok (.iconst 0, 1) := by decide +kernel
theorem dX7_readStore_2 : decode cX7_readStore 2 = .ok (.bipush 6, 2) := by decide +kernel
theorem dX7_readStore_4 : decode cX7_readStore 4 = .ok (.invokevirtual 404, 3) := by decide +kernel
theorem dX7_readStore_7 : decode cX7_readStore 7 = .ok (.istore_n 2, 1) := by decide +kernel
theorem dX7_readStore_8 : decode cX7_readStore 8 = .ok (.aload_n 0, 1) := by decide +kernel
theorem dX7_readStore_9 : decode cX7_readStore 9 = .ok (.bipush 61, 2) := by decide +kernel
theorem dX7_readStore_11 : decode cX7_readStore 11 = .ok (.invokevirtual 407, 3) := by decide +kernel
theorem dX7_readStore_14 : decode cX7_readStore 14 = .ok (.aload_n 0, 1) := by decide +kernel
theorem dX7_readStore_15 : decode cX7_readStore 15 = .ok (.ldc_w 423, 3) := by decide +kernel
theorem dX7_readStore_18 : decode cX7_readStore 18 = .ok (.invokevirtual 384, 3) := by decide +kernel
theorem dX7_readStore_21 : decode cX7_readStore 21 = .ok (.ifCond .eq 18, 3) := by decide +kernel
theorem dX7_readStore_24 : decode cX7_readStore 24 = .ok (.aload_n 0, 1) := by decide +kernel
theorem dX7_readStore_25 : decode cX7_readStore 25 = .ok (.invokevirtual 371, 3) := by decide +kernel
theorem dX7_readStore_28 : decode cX7_readStore 28 = .ok (.aload_n 0, 1) := by decide +kernel
theorem dX7_readStore_29 : decode cX7_readStore 29 = .ok (.iconst 5, 1) := by decide +kernel
theorem dX7_readStore_30 : decode cX7_readStore 30 = .ok (.iload_n 1, 1) := by decide +kernel
theorem dX7_readStore_31 : decode cX7_readStore 31 = .ok (.iload_n 2, 1) := by decide +kernel
theorem dX7_readStore_32 : decode cX7_readStore 32 = .ok (.iconst 0, 1) := by decide +kernel
theorem dX7_readStore_33 : decode cX7_readStore 33 = .ok (.invokevirtual 410, 3) := by decide +kernel
theorem dX7_readStore_36 : decode cX7_readStore 36 = .ok (.goto 14, 3) := by decide +kernel
theorem dX7_readStore_39 : decode cX7_readStore 39 = .ok (.aload_n 0, 1) := by decide +kernel
theorem dX7_readStore_40 : decode cX7_readStore 40 = .ok (.iconst 4, 1) := by decide +kernel
theorem dX7_readStore_41 : decode cX7_readStore 41 = .ok (.iload_n 1, 1) := by decide +kernel
theorem dX7_readStore_42 : decode cX7_readStore 42 = .ok (.iload_n 2, 1) := by decide +kernel
theorem dX7_readStore_43 : decode cX7_readStore 43 = .ok (.aload_n 0, 1) := by decide +kernel
theorem dX7_readStore_44 : decode cX7_readStore 44 = .ok (.invokevirtual 414, 3) := by decide +kernel
theorem dX7_readStore_47 : decode cX7_readStore 47 = .ok (.invokevirtual 410, 3) := by decide +kernel
theorem dX7_readStore_50 : decode cX7_readStore 50 = .ok (.return_, 1) := by decide +kernel
theorem dX7_readNaming_0 : decode cX7_readNaming 0 = .ok (.aload_n 0, 1) := by decide +kernel
theorem dX7_readNaming_1 : decode cX7_readNaming 1 = .ok (.sipush 14519, 3) := by decide +kernel
theorem dX7_readNaming_4 : decode cX7_readNaming 4 = .ok (.invokevirtual 384, 3) := by decide +kernel
theorem dX7_readNaming_7 : decode cX7_readNaming 7 = .ok (.ifCond .eq 24, 3) := by decide +kernel
theorem dX7_readNaming_10 : decode cX7_readNaming 10 = .ok (.aload_n 0, 1) := by decide +kernel
theorem dX7_readNaming_11 : decode cX7_readNaming 11 = .ok (.invokevirtual 371, 3) := by decide +kernel
theorem dX7_readNaming_14 : decode cX7_readNaming 14 = .ok (.aload_n 0, 1) := by decide +kernel
theorem dX7_readNaming_15 : decode cX7_readNaming 15 = .ok (.iconst 0, 1) := by decide +kernel
theorem dX7_readNaming_16 : decode cX7_readNaming 16 = .ok (.iload_n 1, 1) := by decide +kernel
theorem dX7_readNaming_17 : decode cX7_readNaming 17 = .ok (.aload_n 0, 1) := by decide +kernel
theorem dX7_readNaming_18 : decode cX7_readNaming 18 = .ok (.iconst 0, 1) := by decide +kernel
theorem dX7_readNaming_19 : decode cX7_readNaming 19 = .ok (.bipush 7, 2) := by decide +kernel
theorem dX7_readNaming_21 : decode cX7_readNaming 21 = .ok (.invokevirtual 404, 3) := by decide +kernel
theorem dX7_readNaming_24 : decode cX7_readNaming 24 = .ok (.iconst 0, 1) := by decide +kernel
theorem dX7_readNaming_25 : decode cX7_readNaming 25 = .ok (.invokevirtual 410, 3) := by decide +kernel
theorem dX7_readNaming_28 : decode cX7_readNaming 28 = .ok (.goto 71, 3) := by decide +kernel
theorem dX7_readNaming_31 : decode cX7_readNaming 31 = .ok (.aload_n 0, 1) := by decide +kernel
theorem dX7_readNaming_32 : decode cX7_readNaming 32 = .ok (.ldc_w 423, 3) := by decide +kernel
theorem dX7_readNaming_35 : decode cX7_readNaming 35 = .ok (.invokevirtual 384, 3) := by decide +kernel
theorem dX7_readNaming_38 : decode cX7_readNaming 38 = .ok (.ifCond .eq 18, 3) := by decide +kernel
theorem dX7_readNaming_41 : decode cX7_readNaming 41 = .ok (.aload_n 0, 1) := by decide +kernel
theorem dX7_readNaming_42 : decode cX7_readNaming 42 = .ok (.invokevirtual 371, 3) := by decide +kernel
theorem dX7_readNaming_45 : decode cX7_readNaming 45 = .ok (.aload_n 0, 1) := by decide +kernel
theorem dX7_readNaming_46 : decode cX7_readNaming 46 = .ok (.iconst 1, 1) := by decide +kernel
theorem dX7_readNaming_47 : decode cX7_readNaming 47 = .ok (.iload_n 1, 1) := by decide +kernel
theorem dX7_readNaming_48 : decode cX7_readNaming 48 = .ok (.iconst 0, 1) := by decide +kernel
theorem dX7_readNaming_49 : decode cX7_readNaming 49 = .ok (.iconst 0, 1) := by decide +kernel
theorem dX7_readNaming_50 : decode cX7_readNaming 50 = .ok (.invokevirtual 410, 3) := by decide +kernel
theorem dX7_readNaming_53 : decode cX7_readNaming 53 = .ok (.goto 46, 3) := by decide +kernel
theorem dX7_readNaming_56 : decode cX7_readNaming 56 = .ok (.aload_n 0, 1) := by decide +kernel
theorem dX7_readNaming_57 : decode cX7_readNaming 57 = .ok (.invokevirtual 414, 3) := by decide +kernel
theorem dX7_readNaming_60 : decode cX7_readNaming 60 = .ok (.istore_n 2, 1) := by decide +kernel
theorem dX7_readNaming_61 : decode cX7_readNaming 61 = .ok (.aload_n 0, 1) := by decide +kernel
theorem dX7_readNaming_62 : decode cX7_readNaming 62 = .ok (.bipush 46, 2) := by decide +kernel
theorem dX7_readNaming_64 : decode cX7_readNaming 64 = .ok (.invokevirtual 368, 3) := by decide +kernel
theorem dX7_readNaming_67 : decode cX7_readNaming 67 = .ok (.ifCond .eq 24, 3) := by decide +kernel
theorem dX7_readNaming_70 : decode cX7_readNaming 70 = .ok (.aload_n 0, 1) := by decide +kernel
theorem dX7_readNaming_71 : decode cX7_readNaming 71 = .ok (.invokevirtual 371, 3) := by decide +kernel
theorem dX7_readNaming_74 : decode cX7_readNaming 74 = .ok (.aload_n 0, 1) := by decide +kernel
theorem dX7_readNaming_75 : decode cX7_readNaming 75 = .ok (.iconst 3, 1) := by decide +kernel
theorem dX7_readNaming_76 : decode cX7_readNaming 76 = .ok (.iload_n 1, 1) := by decide +kernel
theorem dX7_readNaming_77 : decode cX7_readNaming 77 = .ok (.iload_n 2, 1) := by decide +kernel
theorem dX7_readNaming_78 : decode cX7_readNaming 78 = .ok (.aload_n 0, 1) := by decide +kernel
theorem dX7_readNaming_79 : decode cX7_readNaming 79 = .ok (.iconst 0, 1) := by decide +kernel
theorem dX7_readNaming_80 : decode cX7_readNaming 80 = .ok (.bipush 6, 2) := by decide +kernel
theorem dX7_readNaming_82 : decode cX7_readNaming 82 = .ok (.invokevirtual 404, 3) := by decide +kernel
theorem dX7_readNaming_85 : decode cX7_readNaming 85 = .ok (.invokevirtual 410, 3) := by decide +kernel
theorem dX7_readNaming_88 : decode cX7_readNaming 88 = .ok (.goto 11, 3) := by decide +kernel
theorem dX7_readNaming_91 : decode cX7_readNaming 91 = .ok (.aload_n 0, 1) := by decide +kernel
theorem dX7_readNaming_92 : decode cX7_readNaming 92 = .ok (.iconst 2, 1) := by decide +kernel
theorem dX7_readNaming_93 : decode cX7_readNaming 93 = .ok (.iload_n 1, 1) := by decide +kernel
theorem dX7_readNaming_94 : decode cX7_readNaming 94 = .ok (.iload_n 2, 1) := by decide +kernel
theorem dX7_readNaming_95 : decode cX7_readNaming 95 = .ok (.iconst 0, 1) := by decide +kernel
theorem dX7_readNaming_96 : decode cX7_readNaming 96 = .ok (.invokevirtual 410, 3) := by decide +kernel
theorem dX7_readNaming_99 : decode cX7_readNaming 99 = .ok (.return_, 1) := by decide +kernel
theorem dX7_readAll_0 : decode cX7_readAll 0 = .ok (.aload_n 0, 1) := by decide +kernel
theorem dX7_readAll_1 : decode cX7_readAll 1 = .ok (.invokevirtual 371, 3) := by decide +kernel
theorem dX7_readAll_4 : decode cX7_readAll 4 = .ok (.aload_n 0, 1) := by decide +kernel
theorem dX7_readAll_5 : decode cX7_readAll 5 = .ok (.getfield 362, 3) := by decide +kernel
theorem dX7_readAll_8 : decode cX7_readAll 8 = .ok (.ifCond .ne 68, 3) := by decide +kernel
theorem dX7_readAll_11 : decode cX7_readAll 11 = .ok (.aload_n 0, 1) := by decide +kernel
theorem dX7_readAll_12 : decode cX7_readAll 12 = .ok (.getfield 335, 3) := by decide +kernel
theorem dX7_readAll_15 : decode cX7_readAll 15 = .ok (.ifCond .eq 61, 3) := by decide +kernel
theorem dX7_readAll_18 : decode cX7_readAll 18 = .ok (.aload_n 0, 1) := by decide +kernel
theorem dX7_readAll_19 : decode cX7_readAll 19 = .ok (.bipush 125, 2) := by decide +kernel
theorem dX7_readAll_21 : decode cX7_readAll 21 = .ok (.invokevirtual 368, 3) := by decide +kernel
theorem dX7_readAll_24 : decode cX7_readAll 24 = .ok (.ifCond .eq 45, 3) := by decide +kernel
theorem dX7_readAll_27 : decode cX7_readAll 27 = .ok (.aload_n 0, 1) := by decide +kernel
theorem dX7_readAll_28 : decode cX7_readAll 28 = .ok (.getfield 391, 3) := by decide +kernel
theorem dX7_readAll_31 : decode cX7_readAll 31 = .ok (.ifCond .le 38, 3) := by decide +kernel
theorem dX7_readAll_34 : decode cX7_readAll 34 = .ok (.aload_n 0, 1) := by decide +kernel
theorem dX7_readAll_35 : decode cX7_readAll 35 = .ok (.dup, 1) := by decide +kernel
theorem dX7_readAll_36 : decode cX7_readAll 36 = .ok (.getfield 391, 3) := by decide +kernel
theorem dX7_readAll_39 : decode cX7_readAll 39 = .ok (.iconst 1, 1) := by decide +kernel
theorem dX7_readAll_40 : decode cX7_readAll 40 = .ok (.isub, 1) := by decide +kernel
theorem dX7_readAll_41 : decode cX7_readAll 41 = .ok (.putfield 391, 3) := by decide +kernel
theorem dX7_readAll_44 : decode cX7_readAll 44 = .ok (.aload_n 0, 1) := by decide +kernel
theorem dX7_readAll_45 : decode cX7_readAll 45 = .ok (.getfield 47, 3) := by decide +kernel
theorem dX7_readAll_48 : decode cX7_readAll 48 = .ok (.aload_n 0, 1) := by decide +kernel
theorem dX7_readAll_49 : decode cX7_readAll 49 = .ok (.getfield 69, 3) := by decide +kernel
theorem dX7_readAll_52 : decode cX7_readAll 52 = .ok (.aload_n 0, 1) := by decide +kernel
theorem dX7_readAll_53 : decode cX7_readAll 53 = .ok (.getfield 391, 3) := by decide +kernel
theorem dX7_readAll_56 : decode cX7_readAll 56 = .ok (.iaload, 1) := by decide +kernel
theorem dX7_readAll_57 : decode cX7_readAll 57 = .ok (.aload_n 0, 1) := by decide +kernel
theorem dX7_readAll_58 : decode cX7_readAll 58 = .ok (.getfield 380, 3) := by decide +kernel
theorem dX7_readAll_61 : decode cX7_readAll 61 = .ok (.iastore, 1) := by decide +kernel
theorem dX7_readAll_62 : decode cX7_readAll 62 = .ok (.aload_n 0, 1) := by decide +kernel
theorem dX7_readAll_63 : decode cX7_readAll 63 = .ok (.invokevirtual 371, 3) := by decide +kernel
theorem dX7_readAll_66 : decode cX7_readAll 66 = .ok (.goto (-62), 3) := by decide +kernel
theorem dX7_readAll_69 : decode cX7_readAll 69 = .ok (.aload_n 0, 1) := by decide +kernel
theorem dX7_readAll_70 : decode cX7_readAll 70 = .ok (.invokevirtual 424, 3) := by decide +kernel
theorem dX7_readAll_73 : decode cX7_readAll 73 = .ok (.goto (-69), 3) := by decide +kernel
theorem dX7_readAll_76 : decode cX7_readAll 76 = .ok (.aload_n 0, 1) := by decide +kernel
theorem dX7_readAll_77 : decode cX7_readAll 77 = .ok (.getfield 362, 3) := by decide +kernel
theorem dX7_readAll_80 : decode cX7_readAll 80 = .ok (.ifCond .ne 15, 3) := by decide +kernel
theorem dX7_readAll_83 : decode cX7_readAll 83 = .ok (.aload_n 0, 1) := by decide +kernel
theorem dX7_readAll_84 : decode cX7_readAll 84 = .ok (.getfield 391, 3) := by decide +kernel
theorem dX7_readAll_87 : decode cX7_readAll 87 = .ok (.ifCond .le 8, 3) := by decide +kernel
theorem dX7_readAll_90 : decode cX7_readAll 90 = .ok (.aload_n 0, 1) := by decide +kernel
theorem dX7_readAll_91 : decode cX7_readAll 91 = .ok (.iconst 1, 1) := by decide +kernel
theorem dX7_readAll_92 : decode cX7_readAll 92 = .ok (.invokevirtual 374, 3) := by decide +kernel
theorem dX7_readAll_95 : decode cX7_readAll 95 = .ok (.return_, 1) := by decide +kernel
theorem dX7_program_0 : decode cX7_program 0 = .ok (.aload_n 0, 1) := by decide +kernel
theorem dX7_program_1 : decode cX7_program 1 = .ok (.aload_n 0, 1) := by decide +kernel
theorem dX7_program_2 : decode cX7_program 2 = .ok (.getfield 320, 3) := by decide +kernel
theorem dX7_program_5 : decode cX7_program 5 = .ok (.putfield 323, 3) := by decide +kernel
theorem dX7_program_8 : decode cX7_program 8 = .ok (.aload_n 0, 1) := by decide +kernel
theorem dX7_program_9 : decode cX7_program 9 = .ok (.iconst 0, 1) := by decide +kernel
theorem dX7_program_10 : decode cX7_program 10 = .ok (.putfield 320, 3) := by decide +kernel
theorem dX7_program_13 : decode cX7_program 13 = .ok (.aload_n 0, 1) := by decide +kernel
theorem dX7_program_14 : decode cX7_program 14 = .ok (.iconst 0, 1) := by decide +kernel
theorem dX7_program_15 : decode cX7_program 15 = .ok (.putfield 326, 3) := by decide +kernel
theorem dX7_program_18 : decode cX7_program 18 = .ok (.aload_n 0, 1) := by decide +kernel
theorem dX7_program_19 : decode cX7_program 19 = .ok (.iconst 0, 1) := by decide +kernel
theorem dX7_program_20 : decode cX7_program 20 = .ok (.putfield 362, 3) := by decide +kernel
theorem dX7_program_23 : decode cX7_program 23 = .ok (.aload_n 0, 1) := by decide +kernel
theorem dX7_program_24 : decode cX7_program 24 = .ok (.iconst (-1), 1) := by decide +kernel
theorem dX7_program_25 : decode cX7_program 25 = .ok (.putfield 365, 3) := by decide +kernel
theorem dX7_program_28 : decode cX7_program 28 = .ok (.aload_n 0, 1) := by decide +kernel
theorem dX7_program_29 : decode cX7_program 29 = .ok (.iconst 0, 1) := by decide +kernel
theorem dX7_program_30 : decode cX7_program 30 = .ok (.putfield 391, 3) := by decide +kernel
theorem dX7_program_33 : decode cX7_program 33 = .ok (.aload_n 0, 1) := by decide +kernel
theorem dX7_program_34 : decode cX7_program 34 = .ok (.iconst 0, 1) := by decide +kernel
theorem dX7_program_35 : decode cX7_program 35 = .ok (.putfield 380, 3) := by decide +kernel
theorem dX7_program_38 : decode cX7_program 38 = .ok (.aload_n 0, 1) := by decide +kernel
theorem dX7_program_39 : decode cX7_program 39 = .ok (.invokevirtual 427, 3) := by decide +kernel
theorem dX7_program_42 : decode cX7_program 42 = .ok (.aload_n 0, 1) := by decide +kernel
theorem dX7_program_43 : decode cX7_program 43 = .ok (.aload_n 0, 1) := by decide +kernel
theorem dX7_program_44 : decode cX7_program 44 = .ok (.getfield 362, 3) := by decide +kernel
theorem dX7_program_47 : decode cX7_program 47 = .ok (.putfield 430, 3) := by decide +kernel
theorem dX7_program_50 : decode cX7_program 50 = .ok (.aload_n 0, 1) := by decide +kernel
theorem dX7_program_51 : decode cX7_program 51 = .ok (.aload_n 0, 1) := by decide +kernel
theorem dX7_program_52 : decode cX7_program 52 = .ok (.getfield 365, 3) := by decide +kernel
theorem dX7_program_55 : decode cX7_program 55 = .ok (.putfield 65, 3) := by decide +kernel
theorem dX7_program_58 : decode cX7_program 58 = .ok (.aload_n 0, 1) := by decide +kernel
theorem dX7_program_59 : decode cX7_program 59 = .ok (.getfield 430, 3) := by decide +kernel
theorem dX7_program_62 : decode cX7_program 62 = .ok (.ifCond .le 5, 3) := by decide +kernel
theorem dX7_program_65 : decode cX7_program 65 = .ok (.iconst (-1), 1) := by decide +kernel
theorem dX7_program_66 : decode cX7_program 66 = .ok (.ireturn, 1) := by decide +kernel
theorem dX7_program_67 : decode cX7_program 67 = .ok (.aload_n 0, 1) := by decide +kernel
theorem dX7_program_68 : decode cX7_program 68 = .ok (.aload_n 0, 1) := by decide +kernel
theorem dX7_program_69 : decode cX7_program 69 = .ok (.getfield 380, 3) := by decide +kernel
theorem dX7_program_72 : decode cX7_program 72 = .ok (.putfield 433, 3) := by decide +kernel
theorem dX7_program_75 : decode cX7_program 75 = .ok (.iconst 0, 1) := by decide +kernel
theorem dX7_program_76 : decode cX7_program 76 = .ok (.istore_n 1, 1) := by decide +kernel
theorem dX7_program_77 : decode cX7_program 77 = .ok (.iload_n 1, 1) := by decide +kernel
theorem dX7_program_78 : decode cX7_program 78 = .ok (.aload_n 0, 1) := by decide +kernel
theorem dX7_program_79 : decode cX7_program 79 = .ok (.getfield 433, 3) := by decide +kernel
theorem dX7_program_82 : decode cX7_program 82 = .ok (.if_icmp .ge 69, 3) := by decide +kernel
theorem dX7_program_85 : decode cX7_program 85 = .ok (.aload_n 0, 1) := by decide +kernel
theorem dX7_program_86 : decode cX7_program 86 = .ok (.getfield 50, 3) := by decide +kernel
theorem dX7_program_89 : decode cX7_program 89 = .ok (.iload_n 1, 1) := by decide +kernel
theorem dX7_program_90 : decode cX7_program 90 = .ok (.aload_n 0, 1) := by decide +kernel
theorem dX7_program_91 : decode cX7_program 91 = .ok (.getfield 35, 3) := by decide +kernel
theorem dX7_program_94 : decode cX7_program 94 = .ok (.iload_n 1, 1) := by decide +kernel
theorem dX7_program_95 : decode cX7_program 95 = .ok (.iaload, 1) := by decide +kernel
theorem dX7_program_96 : decode cX7_program 96 = .ok (.iastore, 1) := by decide +kernel
theorem dX7_program_97 : decode cX7_program 97 = .ok (.aload_n 0, 1) := by decide +kernel
theorem dX7_program_98 : decode cX7_program 98 = .ok (.getfield 53, 3) := by decide +kernel
theorem dX7_program_101 : decode cX7_program 101 = .ok (.iload_n 1, 1) := by decide +kernel
theorem dX7_program_102 : decode cX7_program 102 = .ok (.aload_n 0, 1) := by decide +kernel
theorem dX7_program_103 : decode cX7_program 103 = .ok (.getfield 38, 3) := by decide +kernel
theorem dX7_program_106 : decode cX7_program 106 = .ok (.iload_n 1, 1) := by decide +kernel
theorem dX7_program_107 : decode cX7_program 107 = .ok (.iaload, 1) := by decide +kernel
theorem dX7_program_108 : decode cX7_program 108 = .ok (.iastore, 1) := by decide +kernel
theorem dX7_program_109 : decode cX7_program 109 = .ok (.aload_n 0, 1) := by decide +kernel
theorem dX7_program_110 : decode cX7_program 110 = .ok (.getfield 56, 3) := by decide +kernel
theorem dX7_program_113 : decode cX7_program 113 = .ok (.iload_n 1, 1) := by decide +kernel
theorem dX7_program_114 : decode cX7_program 114 = .ok (.aload_n 0, 1) := by decide +kernel
theorem dX7_program_115 : decode cX7_program 115 = .ok (.getfield 41, 3) := by decide +kernel
theorem dX7_program_118 : decode cX7_program 118 = .ok (.iload_n 1, 1) := by decide +kernel
theorem dX7_program_119 : decode cX7_program 119 = .ok (.iaload, 1) := by decide +kernel
theorem dX7_program_120 : decode cX7_program 120 = .ok (.iastore, 1) := by decide +kernel
theorem dX7_program_121 : decode cX7_program 121 = .ok (.aload_n 0, 1) := by decide +kernel
theorem dX7_program_122 : decode cX7_program 122 = .ok (.getfield 59, 3) := by decide +kernel
theorem dX7_program_125 : decode cX7_program 125 = .ok (.iload_n 1, 1) := by decide +kernel
theorem dX7_program_126 : decode cX7_program 126 = .ok (.aload_n 0, 1) := by decide +kernel
theorem dX7_program_127 : decode cX7_program 127 = .ok (.getfield 44, 3) := by decide +kernel
theorem dX7_program_130 : decode cX7_program 130 = .ok (.iload_n 1, 1) := by decide +kernel
theorem dX7_program_131 : decode cX7_program 131 = .ok (.iaload, 1) := by decide +kernel
theorem dX7_program_132 : decode cX7_program 132 = .ok (.iastore, 1) := by decide +kernel
theorem dX7_program_133 : decode cX7_program 133 = .ok (.aload_n 0, 1) := by decide +kernel
theorem dX7_program_134 : decode cX7_program 134 = .ok (.getfield 62, 3) := by decide +kernel
theorem dX7_program_137 : decode cX7_program 137 = .ok (.iload_n 1, 1) := by decide +kernel
theorem dX7_program_138 : decode cX7_program 138 = .ok (.aload_n 0, 1) := by decide +kernel
theorem dX7_program_139 : decode cX7_program 139 = .ok (.getfield 47, 3) := by decide +kernel
theorem dX7_program_142 : decode cX7_program 142 = .ok (.iload_n 1, 1) := by decide +kernel
theorem dX7_program_143 : decode cX7_program 143 = .ok (.iaload, 1) := by decide +kernel
theorem dX7_program_144 : decode cX7_program 144 = .ok (.iastore, 1) := by decide +kernel
theorem dX7_program_145 : decode cX7_program 145 = .ok (.iinc 1 1, 3) := by decide +kernel
theorem dX7_program_148 : decode cX7_program 148 = .ok (.goto (-71), 3) := by decide +kernel
theorem dX7_program_151 : decode cX7_program 151 = .ok (.aload_n 0, 1) := by decide +kernel
theorem dX7_program_152 : decode cX7_program 152 = .ok (.getfield 433, 3) := by decide +kernel
theorem dX7_program_155 : decode cX7_program 155 = .ok (.ireturn, 1) := by decide +kernel
theorem dX7_fault_0 : decode cX7_fault 0 = .ok (.iload_n 1, 1) := by decide +kernel
theorem dX7_fault_1 : decode cX7_fault 1 = .ok (.ifCond .ne 10, 3) := by decide +kernel
theorem dX7_fault_4 : decode cX7_fault 4 = .ok (.aload_n 0, 1) := by decide +kernel
theorem dX7_fault_5 : decode cX7_fault 5 = .ok (.getfield 430, 3) := by decide +kernel
theorem dX7_fault_8 : decode cX7_fault 8 = .ok (.goto 16, 3) := by decide +kernel
theorem dX7_fault_11 : decode cX7_fault 11 = .ok (.iload_n 1, 1) := by decide +kernel
theorem dX7_fault_12 : decode cX7_fault 12 = .ok (.iconst 1, 1) := by decide +kernel
theorem dX7_fault_13 : decode cX7_fault 13 = .ok (.if_icmp .ne 10, 3) := by decide +kernel
theorem dX7_fault_16 : decode cX7_fault 16 = .ok (.aload_n 0, 1) := by decide +kernel
theorem dX7_fault_17 : decode cX7_fault 17 = .ok (.getfield 65, 3) := by decide +kernel
theorem dX7_fault_20 : decode cX7_fault 20 = .ok (.goto 4, 3) := by decide +kernel
theorem dX7_fault_23 : decode cX7_fault 23 = .ok (.iconst (-1), 1) := by decide +kernel
theorem dX7_fault_24 : decode cX7_fault 24 = .ok (.ireturn, 1) := by decide +kernel
theorem dX7_leaveBlocks_0 : decode cX7_leaveBlocks 0 = .ok (.aload_n 0, 1) := by decide +kernel
theorem dX7_leaveBlocks_1 : decode cX7_leaveBlocks 1 = .ok (.getfield 436, 3) := by decide +kernel
theorem dX7_leaveBlocks_4 : decode cX7_leaveBlocks 4 = .ok (.ifCond .le 81, 3) := by decide +kernel
theorem dX7_leaveBlocks_7 : decode cX7_leaveBlocks 7 = .ok (.aload_n 0, 1) := by decide +kernel
theorem dX7_leaveBlocks_8 : decode cX7_leaveBlocks 8 = .ok (.getfield 439, 3) := by decide +kernel
theorem dX7_leaveBlocks_11 : decode cX7_leaveBlocks 11 = .ok (.aload_n 0, 1) := by decide +kernel
theorem dX7_leaveBlocks_12 : decode cX7_leaveBlocks 12 = .ok (.getfield 75, 3) := by decide +kernel
theorem dX7_leaveBlocks_15 : decode cX7_leaveBlocks 15 = .ok (.aload_n 0, 1) := by decide +kernel
theorem dX7_leaveBlocks_16 : decode cX7_leaveBlocks 16 = .ok (.getfield 436, 3) := by decide +kernel
theorem dX7_leaveBlocks_19 : decode cX7_leaveBlocks 19 = .ok (.iconst 1, 1) := by decide +kernel
theorem dX7_leaveBlocks_20 : decode cX7_leaveBlocks 20 = .ok (.isub, 1) := by decide +kernel
theorem dX7_leaveBlocks_21 : decode cX7_leaveBlocks 21 = .ok (.iaload, 1) := by decide +kernel
theorem dX7_leaveBlocks_22 : decode cX7_leaveBlocks 22 = .ok (.if_icmp .ne 63, 3) := by decide +kernel
theorem dX7_leaveBlocks_25 : decode cX7_leaveBlocks 25 = .ok (.aload_n 0, 1) := by decide +kernel
theorem dX7_leaveBlocks_26 : decode cX7_leaveBlocks 26 = .ok (.getfield 78, 3) := by decide +kernel
theorem dX7_leaveBlocks_29 : decode cX7_leaveBlocks 29 = .ok (.aload_n 0, 1) := by decide +kernel
theorem dX7_leaveBlocks_30 : decode cX7_leaveBlocks 30 = .ok (.getfield 436, 3) := by decide +kernel
theorem dX7_leaveBlocks_33 : decode cX7_leaveBlocks 33 = .ok (.iconst 1, 1) := by decide +kernel
theorem dX7_leaveBlocks_34 : decode cX7_leaveBlocks 34 = .ok (.isub, 1) := by decide +kernel
theorem dX7_leaveBlocks_35 : decode cX7_leaveBlocks 35 = .ok (.iaload, 1) := by decide +kernel
theorem dX7_leaveBlocks_36 : decode cX7_leaveBlocks 36 = .ok (.ifCond .ne 16, 3) := by decide +kernel
theorem dX7_leaveBlocks_39 : decode cX7_leaveBlocks 39 = .ok (.aload_n 0, 1) := by decide +kernel
theorem dX7_leaveBlocks_40 : decode cX7_leaveBlocks 40 = .ok (.dup, 1) := by decide +kernel
theorem dX7_leaveBlocks_41 : decode cX7_leaveBlocks 41 = .ok (.getfield 436, 3) := by decide +kernel
theorem dX7_leaveBlocks_44 : decode cX7_leaveBlocks 44 = .ok (.iconst 1, 1) := by decide +kernel
theorem dX7_leaveBlocks_45 : decode cX7_leaveBlocks 45 = .ok (.isub, 1) := by decide +kernel
theorem dX7_leaveBlocks_46 : decode cX7_leaveBlocks 46 = .ok (.putfield 436, 3) := by decide +kernel
theorem dX7_leaveBlocks_49 : decode cX7_leaveBlocks 49 = .ok (.goto (-49), 3) := by decide +kernel
theorem dX7_leaveBlocks_52 : decode cX7_leaveBlocks 52 = .ok (.aload_n 0, 1) := by decide +kernel
theorem dX7_leaveBlocks_53 : decode cX7_leaveBlocks 53 = .ok (.getfield 78, 3) := by decide +kernel
theorem dX7_leaveBlocks_56 : decode cX7_leaveBlocks 56 = .ok (.aload_n 0, 1) := by decide +kernel
theorem dX7_leaveBlocks_57 : decode cX7_leaveBlocks 57 = .ok (.getfield 436, 3) := by decide +kernel
theorem dX7_leaveBlocks_60 : decode cX7_leaveBlocks 60 = .ok (.iconst 1, 1) := by decide +kernel
theorem dX7_leaveBlocks_61 : decode cX7_leaveBlocks 61 = .ok (.isub, 1) := by decide +kernel
theorem dX7_leaveBlocks_62 : decode cX7_leaveBlocks 62 = .ok (.dup2, 1) := by decide +kernel
theorem dX7_leaveBlocks_63 : decode cX7_leaveBlocks 63 = .ok (.iaload, 1) := by decide +kernel
theorem dX7_leaveBlocks_64 : decode cX7_leaveBlocks 64 = .ok (.iconst 1, 1) := by decide +kernel
theorem dX7_leaveBlocks_65 : decode cX7_leaveBlocks 65 = .ok (.isub, 1) := by decide +kernel
theorem dX7_leaveBlocks_66 : decode cX7_leaveBlocks 66 = .ok (.iastore, 1) := by decide +kernel
theorem dX7_leaveBlocks_67 : decode cX7_leaveBlocks 67 = .ok (.aload_n 0, 1) := by decide +kernel
theorem dX7_leaveBlocks_68 : decode cX7_leaveBlocks 68 = .ok (.aload_n 0, 1) := by decide +kernel
theorem dX7_leaveBlocks_69 : decode cX7_leaveBlocks 69 = .ok (.getfield 72, 3) := by decide +kernel
theorem dX7_leaveBlocks_72 : decode cX7_leaveBlocks 72 = .ok (.aload_n 0, 1) := by decide +kernel
theorem dX7_leaveBlocks_73 : decode cX7_leaveBlocks 73 = .ok (.getfield 436, 3) := by decide +kernel
theorem dX7_leaveBlocks_76 : decode cX7_leaveBlocks 76 = .ok (.iconst 1, 1) := by decide +kernel
theorem dX7_leaveBlocks_77 : decode cX7_leaveBlocks 77 = .ok (.isub, 1) := by decide +kernel
theorem dX7_leaveBlocks_78 : decode cX7_leaveBlocks 78 = .ok (.iaload, 1) := by decide +kernel
theorem dX7_leaveBlocks_79 : decode cX7_leaveBlocks 79 = .ok (.putfield 439, 3) := by decide +kernel
theorem dX7_leaveBlocks_82 : decode cX7_leaveBlocks 82 = .ok (.goto (-82), 3) := by decide +kernel
theorem dX7_leaveBlocks_85 : decode cX7_leaveBlocks 85 = .ok (.return_, 1) := by decide +kernel
theorem dX7_enter_0 : decode cX7_enter 0 = .ok (.aload_n 0, 1) := by decide +kernel
theorem dX7_enter_1 : decode cX7_enter 1 = .ok (.getfield 72, 3) := by decide +kernel
theorem dX7_enter_4 : decode cX7_enter 4 = .ok (.aload_n 0, 1) := by decide +kernel
theorem dX7_enter_5 : decode cX7_enter 5 = .ok (.getfield 436, 3) := by decide +kernel
theorem dX7_enter_8 : decode cX7_enter 8 = .ok (.aload_n 0, 1) := by decide +kernel
theorem dX7_enter_9 : decode cX7_enter 9 = .ok (.getfield 439, 3) := by decide +kernel
theorem dX7_enter_12 : decode cX7_enter 12 = .ok (.iconst 1, 1) := by decide +kernel
theorem dX7_enter_13 : decode cX7_enter 13 = .ok (.iadd, 1) := by decide +kernel
theorem dX7_enter_14 : decode cX7_enter 14 = .ok (.iastore, 1) := by decide +kernel
theorem dX7_enter_15 : decode cX7_enter 15 = .ok (.aload_n 0, 1) := by decide +kernel
theorem dX7_enter_16 : decode cX7_enter 16 = .ok (.getfield 75, 3) := by decide +kernel
theorem dX7_enter_19 : decode cX7_enter 19 = .ok (.aload_n 0, 1) := by decide +kernel
theorem dX7_enter_20 : decode cX7_enter 20 = .ok (.getfield 436, 3) := by decide +kernel
theorem dX7_enter_23 : decode cX7_enter 23 = .ok (.aload_n 0, 1) := by decide +kernel
theorem dX7_enter_24 : decode cX7_enter 24 = .ok (.getfield 62, 3) := by decide +kernel
theorem dX7_enter_27 : decode cX7_enter 27 = .ok (.aload_n 0, 1) := by decide +kernel
theorem dX7_enter_28 : decode cX7_enter 28 = .ok (.getfield 439, 3) := by decide +kernel
theorem dX7_enter_31 : decode cX7_enter 31 = .ok (.iaload, 1) := by decide +kernel
theorem dX7_enter_32 : decode cX7_enter 32 = .ok (.iastore, 1) := by decide +kernel
theorem dX7_enter_33 : decode cX7_enter 33 = .ok (.aload_n 0, 1) := by decide +kernel
theorem dX7_enter_34 : decode cX7_enter 34 = .ok (.getfield 78, 3) := by decide +kernel
theorem dX7_enter_37 : decode cX7_enter 37 = .ok (.aload_n 0, 1) := by decide +kernel
theorem dX7_enter_38 : decode cX7_enter 38 = .ok (.getfield 436, 3) := by decide +kernel
theorem dX7_enter_41 : decode cX7_enter 41 = .ok (.iload_n 1, 1) := by decide +kernel
theorem dX7_enter_42 : decode cX7_enter 42 = .ok (.iconst 1, 1) := by decide +kernel
theorem dX7_enter_43 : decode cX7_enter 43 = .ok (.isub, 1) := by decide +kernel
theorem dX7_enter_44 : decode cX7_enter 44 = .ok (.iastore, 1) := by decide +kernel
theorem dX7_enter_45 : decode cX7_enter 45 = .ok (.aload_n 0, 1) := by decide +kernel
theorem dX7_enter_46 : decode cX7_enter 46 = .ok (.dup, 1) := by decide +kernel
theorem dX7_enter_47 : decode cX7_enter 47 = .ok (.getfield 436, 3) := by decide +kernel
theorem dX7_enter_50 : decode cX7_enter 50 = .ok (.iconst 1, 1) := by decide +kernel
theorem dX7_enter_51 : decode cX7_enter 51 = .ok (.iadd, 1) := by decide +kernel
theorem dX7_enter_52 : decode cX7_enter 52 = .ok (.putfield 436, 3) := by decide +kernel
theorem dX7_enter_55 : decode cX7_enter 55 = .ok (.aload_n 0, 1) := by decide +kernel
theorem dX7_enter_56 : decode cX7_enter 56 = .ok (.dup, 1) := by decide +kernel
theorem dX7_enter_57 : decode cX7_enter 57 = .ok (.getfield 439, 3) := by decide +kernel
theorem dX7_enter_60 : decode cX7_enter 60 = .ok (.iconst 1, 1) := by decide +kernel
theorem dX7_enter_61 : decode cX7_enter 61 = .ok (.iadd, 1) := by decide +kernel
theorem dX7_enter_62 : decode cX7_enter 62 = .ok (.putfield 439, 3) := by decide +kernel
theorem dX7_enter_65 : decode cX7_enter 65 = .ok (.return_, 1) := by decide +kernel
theorem dX7_canGo_0 : decode cX7_canGo 0 = .ok (.aload_n 0, 1) := by decide +kernel
theorem dX7_canGo_1 : decode cX7_canGo 1 = .ok (.getfield 50, 3) := by decide +kernel
theorem dX7_canGo_4 : decode cX7_canGo 4 = .ok (.aload_n 0, 1) := by decide +kernel
theorem dX7_canGo_5 : decode cX7_canGo 5 = .ok (.getfield 439, 3) := by decide +kernel
theorem dX7_canGo_8 : decode cX7_canGo 8 = .ok (.iaload, 1) := by decide +kernel
theorem dX7_canGo_9 : decode cX7_canGo 9 = .ok (.tableswitch 115 3 5 #[27, 59, 91], 27) := by decide +kernel
theorem dX7_canGo_36 : decode cX7_canGo 36 = .ok (.aload_n 0, 1) := by decide +kernel
theorem dX7_canGo_37 : decode cX7_canGo 37 = .ok (.aload_n 0, 1) := by decide +kernel
theorem dX7_canGo_38 : decode cX7_canGo 38 = .ok (.getfield 53, 3) := by decide +kernel
theorem dX7_canGo_41 : decode cX7_canGo 41 = .ok (.aload_n 0, 1) := by decide +kernel
theorem dX7_canGo_42 : decode cX7_canGo 42 = .ok (.getfield 439, 3) := by decide +kernel
theorem dX7_canGo_45 : decode cX7_canGo 45 = .ok (.iaload, 1) := by decide +kernel
theorem dX7_canGo_46 : decode cX7_canGo 46 = .ok (.aload_n 0, 1) := by decide +kernel
theorem dX7_canGo_47 : decode cX7_canGo 47 = .ok (.getfield 56, 3) := by decide +kernel
theorem dX7_canGo_50 : decode cX7_canGo 50 = .ok (.aload_n 0, 1) := by decide +kernel
theorem dX7_canGo_51 : decode cX7_canGo 51 = .ok (.getfield 439, 3) := by decide +kernel
theorem dX7_canGo_54 : decode cX7_canGo 54 = .ok (.iaload, 1) := by decide +kernel
theorem dX7_canGo_55 : decode cX7_canGo 55 = .ok (.aload_n 0, 1) := by decide +kernel
theorem dX7_canGo_56 : decode cX7_canGo 56 = .ok (.getfield 59, 3) := by decide +kernel
theorem dX7_canGo_59 : decode cX7_canGo 59 = .ok (.aload_n 0, 1) := by decide +kernel
theorem dX7_canGo_60 : decode cX7_canGo 60 = .ok (.getfield 439, 3) := by decide +kernel
theorem dX7_canGo_63 : decode cX7_canGo 63 = .ok (.iaload, 1) := by decide +kernel
theorem dX7_canGo_64 : decode cX7_canGo 64 = .ok (.invokevirtual 228, 3) := by decide +kernel
theorem dX7_canGo_67 : decode cX7_canGo 67 = .ok (.ireturn, 1) := by decide +kernel
theorem dX7_canGo_68 : decode cX7_canGo 68 = .ok (.aload_n 0, 1) := by decide +kernel
theorem dX7_canGo_69 : decode cX7_canGo 69 = .ok (.aload_n 0, 1) := by decide +kernel
theorem dX7_canGo_70 : decode cX7_canGo 70 = .ok (.getfield 53, 3) := by decide +kernel
theorem dX7_canGo_73 : decode cX7_canGo 73 = .ok (.aload_n 0, 1) := by decide +kernel
theorem dX7_canGo_74 : decode cX7_canGo 74 = .ok (.getfield 439, 3) := by decide +kernel
theorem dX7_canGo_77 : decode cX7_canGo 77 = .ok (.iaload, 1) := by decide +kernel
theorem dX7_canGo_78 : decode cX7_canGo 78 = .ok (.aload_n 0, 1) := by decide +kernel
theorem dX7_canGo_79 : decode cX7_canGo 79 = .ok (.getfield 56, 3) := by decide +kernel
theorem dX7_canGo_82 : decode cX7_canGo 82 = .ok (.aload_n 0, 1) := by decide +kernel
theorem dX7_canGo_83 : decode cX7_canGo 83 = .ok (.getfield 439, 3) := by decide +kernel
theorem dX7_canGo_86 : decode cX7_canGo 86 = .ok (.iaload, 1) := by decide +kernel
theorem dX7_canGo_87 : decode cX7_canGo 87 = .ok (.aload_n 0, 1) := by decide +kernel
theorem dX7_canGo_88 : decode cX7_canGo 88 = .ok (.getfield 59, 3) := by decide +kernel
theorem dX7_canGo_91 : decode cX7_canGo 91 = .ok (.aload_n 0, 1) := by decide +kernel
theorem dX7_canGo_92 : decode cX7_canGo 92 = .ok (.getfield 439, 3) := by decide +kernel
theorem dX7_canGo_95 : decode cX7_canGo 95 = .ok (.iaload, 1) := by decide +kernel
theorem dX7_canGo_96 : decode cX7_canGo 96 = .ok (.invokevirtual 241, 3) := by decide +kernel
theorem dX7_canGo_99 : decode cX7_canGo 99 = .ok (.ireturn, 1) := by decide +kernel
theorem dX7_canGo_100 : decode cX7_canGo 100 = .ok (.aload_n 0, 1) := by decide +kernel
theorem dX7_canGo_101 : decode cX7_canGo 101 = .ok (.aload_n 0, 1) := by decide +kernel
theorem dX7_canGo_102 : decode cX7_canGo 102 = .ok (.getfield 53, 3) := by decide +kernel
theorem dX7_canGo_105 : decode cX7_canGo 105 = .ok (.aload_n 0, 1) := by decide +kernel
theorem dX7_canGo_106 : decode cX7_canGo 106 = .ok (.getfield 439, 3) := by decide +kernel
theorem dX7_canGo_109 : decode cX7_canGo 109 = .ok (.iaload, 1) := by decide +kernel
theorem dX7_canGo_110 : decode cX7_canGo 110 = .ok (.aload_n 0, 1) := by decide +kernel
theorem dX7_canGo_111 : decode cX7_canGo 111 = .ok (.getfield 56, 3) := by decide +kernel
theorem dX7_canGo_114 : decode cX7_canGo 114 = .ok (.aload_n 0, 1) := by decide +kernel
theorem dX7_canGo_115 : decode cX7_canGo 115 = .ok (.getfield 439, 3) := by decide +kernel
theorem dX7_canGo_118 : decode cX7_canGo 118 = .ok (.iaload, 1) := by decide +kernel
theorem dX7_canGo_119 : decode cX7_canGo 119 = .ok (.iconst (-1), 1) := by decide +kernel
theorem dX7_canGo_120 : decode cX7_canGo 120 = .ok (.invokevirtual 241, 3) := by decide +kernel
theorem dX7_canGo_123 : decode cX7_canGo 123 = .ok (.ireturn, 1) := by decide +kernel
theorem dX7_canGo_124 : decode cX7_canGo 124 = .ok (.iconst 1, 1) := by decide +kernel
theorem dX7_canGo_125 : decode cX7_canGo 125 = .ok (.ireturn, 1) := by decide +kernel
theorem dX7_doGo_0 : decode cX7_doGo 0 = .ok (.aload_n 0, 1) := by decide +kernel
theorem dX7_doGo_1 : decode cX7_doGo 1 = .ok (.getfield 53, 3) := by decide +kernel
theorem dX7_doGo_4 : decode cX7_doGo 4 = .ok (.aload_n 0, 1) := by decide +kernel
theorem dX7_doGo_5 : decode cX7_doGo 5 = .ok (.getfield 439, 3) := by decide +kernel
theorem dX7_doGo_8 : decode cX7_doGo 8 = .ok (.iaload, 1) := by decide +kernel
theorem dX7_doGo_9 : decode cX7_doGo 9 = .ok (.istore_n 1, 1) := by decide +kernel
theorem dX7_doGo_10 : decode cX7_doGo 10 = .ok (.aload_n 0, 1) := by decide +kernel
theorem dX7_doGo_11 : decode cX7_doGo 11 = .ok (.getfield 56, 3) := by decide +kernel
theorem dX7_doGo_14 : decode cX7_doGo 14 = .ok (.aload_n 0, 1) := by decide +kernel
theorem dX7_doGo_15 : decode cX7_doGo 15 = .ok (.getfield 439, 3) := by decide +kernel
theorem dX7_doGo_18 : decode cX7_doGo 18 = .ok (.iaload, 1) := by decide +kernel
theorem dX7_doGo_19 : decode cX7_doGo 19 = .ok (.istore_n 2, 1) := by decide +kernel
theorem dX7_doGo_20 : decode cX7_doGo 20 = .ok (.aload_n 0, 1) := by decide +kernel
theorem dX7_doGo_21 : decode cX7_doGo 21 = .ok (.getfield 50, 3) := by decide +kernel
theorem dX7_doGo_24 : decode cX7_doGo 24 = .ok (.aload_n 0, 1) := by decide +kernel
theorem dX7_doGo_25 : decode cX7_doGo 25 = .ok (.getfield 439, 3) := by decide +kernel
theorem dX7_doGo_28 : decode cX7_doGo 28 = .ok (.iaload, 1) := by decide +kernel
theorem dX7_doGo_29 : decode cX7_doGo 29 = .ok (.tableswitch 139 0 5 #[39, 52, 66, 89, 111, 129], 39) := by decide +kernel
theorem dX7_doGo_68 : decode cX7_doGo 68 = .ok (.aload_n 0, 1) := by decide +kernel
theorem dX7_doGo_69 : decode cX7_doGo 69 = .ok (.aload_n 0, 1) := by decide +kernel
theorem dX7_doGo_70 : decode cX7_doGo 70 = .ok (.iload_n 1, 1) := by decide +kernel
theorem dX7_doGo_71 : decode cX7_doGo 71 = .ok (.iload_n 2, 1) := by decide +kernel
theorem dX7_doGo_72 : decode cX7_doGo 72 = .ok (.invokevirtual 222, 3) := by decide +kernel
theorem dX7_doGo_75 : decode cX7_doGo 75 = .ok (.putfield 308, 3) := by decide +kernel
theorem dX7_doGo_78 : decode cX7_doGo 78 = .ok (.goto 99, 3) := by decide +kernel
theorem dX7_doGo_81 : decode cX7_doGo 81 = .ok (.aload_n 0, 1) := by decide +kernel
theorem dX7_doGo_82 : decode cX7_doGo 82 = .ok (.getfield 7, 3) := by decide +kernel
theorem dX7_doGo_85 : decode cX7_doGo 85 = .ok (.sipush 715, 3) := by decide +kernel
theorem dX7_doGo_88 : decode cX7_doGo 88 = .ok (.iload_n 1, 1) := by decide +kernel
theorem dX7_doGo_89 : decode cX7_doGo 89 = .ok (.iadd, 1) := by decide +kernel
theorem dX7_doGo_90 : decode cX7_doGo 90 = .ok (.iconst (-1), 1) := by decide +kernel
theorem dX7_doGo_91 : decode cX7_doGo 91 = .ok (.iastore, 1) := by decide +kernel
theorem dX7_doGo_92 : decode cX7_doGo 92 = .ok (.goto 85, 3) := by decide +kernel
theorem dX7_doGo_95 : decode cX7_doGo 95 = .ok (.aload_n 0, 1) := by decide +kernel
theorem dX7_doGo_96 : decode cX7_doGo 96 = .ok (.getfield 7, 3) := by decide +kernel
theorem dX7_doGo_99 : decode cX7_doGo 99 = .ok (.sipush 715, 3) := by decide +kernel
theorem dX7_doGo_102 : decode cX7_doGo 102 = .ok (.iload_n 1, 1) := by decide +kernel
theorem dX7_doGo_103 : decode cX7_doGo 103 = .ok (.iadd, 1) := by decide +kernel
theorem dX7_doGo_104 : decode cX7_doGo 104 = .ok (.aload_n 0, 1) := by decide +kernel
theorem dX7_doGo_105 : decode cX7_doGo 105 = .ok (.getfield 7, 3) := by decide +kernel
theorem dX7_doGo_108 : decode cX7_doGo 108 = .ok (.sipush 715, 3) := by decide +kernel
theorem dX7_doGo_111 : decode cX7_doGo 111 = .ok (.iload_n 2, 1) := by decide +kernel
theorem dX7_doGo_112 : decode cX7_doGo 112 = .ok (.iadd, 1) := by decide +kernel
theorem dX7_doGo_113 : decode cX7_doGo 113 = .ok (.iaload, 1) := by decide +kernel
theorem dX7_doGo_114 : decode cX7_doGo 114 = .ok (.iastore, 1) := by decide +kernel
theorem dX7_doGo_115 : decode cX7_doGo 115 = .ok (.goto 62, 3) := by decide +kernel
theorem dX7_doGo_118 : decode cX7_doGo 118 = .ok (.aload_n 0, 1) := by decide +kernel
theorem dX7_doGo_119 : decode cX7_doGo 119 = .ok (.aload_n 0, 1) := by decide +kernel
theorem dX7_doGo_120 : decode cX7_doGo 120 = .ok (.iload_n 1, 1) := by decide +kernel
theorem dX7_doGo_121 : decode cX7_doGo 121 = .ok (.iload_n 2, 1) := by decide +kernel
theorem dX7_doGo_122 : decode cX7_doGo 122 = .ok (.aload_n 0, 1) := by decide +kernel
theorem dX7_doGo_123 : decode cX7_doGo 123 = .ok (.getfield 59, 3) := by decide +kernel
theorem dX7_doGo_126 : decode cX7_doGo 126 = .ok (.aload_n 0, 1) := by decide +kernel
theorem dX7_doGo_127 : decode cX7_doGo 127 = .ok (.getfield 439, 3) := by decide +kernel
theorem dX7_doGo_130 : decode cX7_doGo 130 = .ok (.iaload, 1) := by decide +kernel
theorem dX7_doGo_131 : decode cX7_doGo 131 = .ok (.invokevirtual 231, 3) := by decide +kernel
theorem dX7_doGo_134 : decode cX7_doGo 134 = .ok (.putfield 308, 3) := by decide +kernel
theorem dX7_doGo_137 : decode cX7_doGo 137 = .ok (.goto 40, 3) := by decide +kernel
theorem dX7_doGo_140 : decode cX7_doGo 140 = .ok (.aload_n 0, 1) := by decide +kernel
theorem dX7_doGo_141 : decode cX7_doGo 141 = .ok (.iload_n 1, 1) := by decide +kernel
theorem dX7_doGo_142 : decode cX7_doGo 142 = .ok (.iload_n 2, 1) := by decide +kernel
theorem dX7_doGo_143 : decode cX7_doGo 143 = .ok (.aload_n 0, 1) := by decide +kernel
theorem dX7_doGo_144 : decode cX7_doGo 144 = .ok (.getfield 59, 3) := by decide +kernel
theorem dX7_doGo_147 : decode cX7_doGo 147 = .ok (.aload_n 0, 1) := by decide +kernel
theorem dX7_doGo_148 : decode cX7_doGo 148 = .ok (.getfield 439, 3) := by decide +kernel
theorem dX7_doGo_151 : decode cX7_doGo 151 = .ok (.iaload, 1) := by decide +kernel
theorem dX7_doGo_152 : decode cX7_doGo 152 = .ok (.invokevirtual 244, 3) := by decide +kernel
theorem dX7_doGo_155 : decode cX7_doGo 155 = .ok (.goto 22, 3) := by decide +kernel
theorem dX7_doGo_158 : decode cX7_doGo 158 = .ok (.aload_n 0, 1) := by decide +kernel
theorem dX7_doGo_159 : decode cX7_doGo 159 = .ok (.iload_n 1, 1) := by decide +kernel
theorem dX7_doGo_160 : decode cX7_doGo 160 = .ok (.iload_n 2, 1) := by decide +kernel
theorem dX7_doGo_161 : decode cX7_doGo 161 = .ok (.iconst (-1), 1) := by decide +kernel
theorem dX7_doGo_162 : decode cX7_doGo 162 = .ok (.invokevirtual 244, 3) := by decide +kernel
theorem dX7_doGo_165 : decode cX7_doGo 165 = .ok (.goto 12, 3) := by decide +kernel
theorem dX7_doGo_168 : decode cX7_doGo 168 = .ok (.aload_n 0, 1) := by decide +kernel
theorem dX7_doGo_169 : decode cX7_doGo 169 = .ok (.aload_n 0, 1) := by decide +kernel
theorem dX7_doGo_170 : decode cX7_doGo 170 = .ok (.iload_n 1, 1) := by decide +kernel
theorem dX7_doGo_171 : decode cX7_doGo 171 = .ok (.invokevirtual 189, 3) := by decide +kernel
theorem dX7_doGo_174 : decode cX7_doGo 174 = .ok (.putfield 308, 3) := by decide +kernel
theorem dX7_doGo_177 : decode cX7_doGo 177 = .ok (.return_, 1) := by decide +kernel
theorem dX7_goRun_0 : decode cX7_goRun 0 = .ok (.iconst 0, 1) := by decide +kernel
theorem dX7_goRun_1 : decode cX7_goRun 1 = .ok (.istore_n 1, 1) := by decide +kernel
theorem dX7_goRun_2 : decode cX7_goRun 2 = .ok (.aload_n 0, 1) := by decide +kernel
theorem dX7_goRun_3 : decode cX7_goRun 3 = .ok (.iconst 0, 1) := by decide +kernel
theorem dX7_goRun_4 : decode cX7_goRun 4 = .ok (.putfield 439, 3) := by decide +kernel
theorem dX7_goRun_7 : decode cX7_goRun 7 = .ok (.aload_n 0, 1) := by decide +kernel
theorem dX7_goRun_8 : decode cX7_goRun 8 = .ok (.iconst 0, 1) := by decide +kernel
theorem dX7_goRun_9 : decode cX7_goRun 9 = .ok (.putfield 436, 3) := by decide +kernel
theorem dX7_goRun_12 : decode cX7_goRun 12 = .ok (.aload_n 0, 1) := by decide +kernel
theorem dX7_goRun_13 : decode cX7_goRun 13 = .ok (.invokevirtual 442, 3) := by decide +kernel
theorem dX7_goRun_16 : decode cX7_goRun 16 = .ok (.aload_n 0, 1) := by decide +kernel
theorem dX7_goRun_17 : decode cX7_goRun 17 = .ok (.getfield 439, 3) := by decide +kernel
theorem dX7_goRun_20 : decode cX7_goRun 20 = .ok (.aload_n 0, 1) := by decide +kernel
theorem dX7_goRun_21 : decode cX7_goRun 21 = .ok (.getfield 433, 3) := by decide +kernel
theorem dX7_goRun_24 : decode cX7_goRun 24 = .ok (.if_icmp .ge 155, 3) := by decide +kernel
theorem dX7_goRun_27 : decode cX7_goRun 27 = .ok (.iload_n 1, 1) := by decide +kernel
theorem dX7_goRun_28 : decode cX7_goRun 28 = .ok (.sipush 300, 3) := by decide +kernel
theorem dX7_goRun_31 : decode cX7_goRun 31 = .ok (.if_icmp .ge 148, 3) := by decide +kernel
theorem dX7_goRun_34 : decode cX7_goRun 34 = .ok (.aload_n 0, 1) := by decide +kernel
theorem dX7_goRun_35 : decode cX7_goRun 35 = .ok (.getfield 50, 3) := by decide +kernel
theorem dX7_goRun_38 : decode cX7_goRun 38 = .ok (.aload_n 0, 1) := by decide +kernel
theorem dX7_goRun_39 : decode cX7_goRun 39 = .ok (.getfield 439, 3) := by decide +kernel
theorem dX7_goRun_42 : decode cX7_goRun 42 = .ok (.iaload, 1) := by decide +kernel
theorem dX7_goRun_43 : decode cX7_goRun 43 = .ok (.bipush 7, 2) := by decide +kernel
theorem dX7_goRun_45 : decode cX7_goRun 45 = .ok (.if_icmp .ne 19, 3) := by decide +kernel
theorem dX7_goRun_48 : decode cX7_goRun 48 = .ok (.aload_n 0, 1) := by decide +kernel
theorem dX7_goRun_49 : decode cX7_goRun 49 = .ok (.aload_n 0, 1) := by decide +kernel
theorem dX7_goRun_50 : decode cX7_goRun 50 = .ok (.getfield 53, 3) := by decide +kernel
theorem dX7_goRun_53 : decode cX7_goRun 53 = .ok (.aload_n 0, 1) := by decide +kernel
theorem dX7_goRun_54 : decode cX7_goRun 54 = .ok (.getfield 439, 3) := by decide +kernel
theorem dX7_goRun_57 : decode cX7_goRun 57 = .ok (.iaload, 1) := by decide +kernel
theorem dX7_goRun_58 : decode cX7_goRun 58 = .ok (.invokevirtual 445, 3) := by decide +kernel
theorem dX7_goRun_61 : decode cX7_goRun 61 = .ok (.goto 111, 3) := by decide +kernel
theorem dX7_goRun_64 : decode cX7_goRun 64 = .ok (.aload_n 0, 1) := by decide +kernel
theorem dX7_goRun_65 : decode cX7_goRun 65 = .ok (.getfield 50, 3) := by decide +kernel
theorem dX7_goRun_68 : decode cX7_goRun 68 = .ok (.aload_n 0, 1) := by decide +kernel
theorem dX7_goRun_69 : decode cX7_goRun 69 = .ok (.getfield 439, 3) := by decide +kernel
theorem dX7_goRun_72 : decode cX7_goRun 72 = .ok (.iaload, 1) := by decide +kernel
theorem dX7_goRun_73 : decode cX7_goRun 73 = .ok (.bipush 8, 2) := by decide +kernel
theorem dX7_goRun_75 : decode cX7_goRun 75 = .ok (.if_icmp .ne 48, 3) := by decide +kernel
theorem dX7_goRun_78 : decode cX7_goRun 78 = .ok (.aload_n 0, 1) := by decide +kernel
theorem dX7_goRun_79 : decode cX7_goRun 79 = .ok (.getfield 7, 3) := by decide +kernel
theorem dX7_goRun_82 : decode cX7_goRun 82 = .ok (.sipush 715, 3) := by decide +kernel
theorem dX7_goRun_85 : decode cX7_goRun 85 = .ok (.aload_n 0, 1) := by decide +kernel
theorem dX7_goRun_86 : decode cX7_goRun 86 = .ok (.getfield 53, 3) := by decide +kernel
theorem dX7_goRun_89 : decode cX7_goRun 89 = .ok (.aload_n 0, 1) := by decide +kernel
theorem dX7_goRun_90 : decode cX7_goRun 90 = .ok (.getfield 439, 3) := by decide +kernel
theorem dX7_goRun_93 : decode cX7_goRun 93 = .ok (.iaload, 1) := by decide +kernel
theorem dX7_goRun_94 : decode cX7_goRun 94 = .ok (.iadd, 1) := by decide +kernel
theorem dX7_goRun_95 : decode cX7_goRun 95 = .ok (.iaload, 1) := by decide +kernel
theorem dX7_goRun_96 : decode cX7_goRun 96 = .ok (.ifCond .lt 11, 3) := by decide +kernel
theorem dX7_goRun_99 : decode cX7_goRun 99 = .ok (.aload_n 0, 1) := by decide +kernel
theorem dX7_goRun_100 : decode cX7_goRun 100 = .ok (.iconst 1, 1) := by decide +kernel
theorem dX7_goRun_101 : decode cX7_goRun 101 = .ok (.invokevirtual 445, 3) := by decide +kernel
theorem dX7_goRun_104 : decode cX7_goRun 104 = .ok (.goto 68, 3) := by decide +kernel
theorem dX7_goRun_107 : decode cX7_goRun 107 = .ok (.aload_n 0, 1) := by decide +kernel
theorem dX7_goRun_108 : decode cX7_goRun 108 = .ok (.aload_n 0, 1) := by decide +kernel
theorem dX7_goRun_109 : decode cX7_goRun 109 = .ok (.getfield 62, 3) := by decide +kernel
theorem dX7_goRun_112 : decode cX7_goRun 112 = .ok (.aload_n 0, 1) := by decide +kernel
theorem dX7_goRun_113 : decode cX7_goRun 113 = .ok (.getfield 439, 3) := by decide +kernel
theorem dX7_goRun_116 : decode cX7_goRun 116 = .ok (.iaload, 1) := by decide +kernel
theorem dX7_goRun_117 : decode cX7_goRun 117 = .ok (.putfield 439, 3) := by decide +kernel
theorem dX7_goRun_120 : decode cX7_goRun 120 = .ok (.goto 52, 3) := by decide +kernel
theorem dX7_goRun_123 : decode cX7_goRun 123 = .ok (.aload_n 0, 1) := by decide +kernel
theorem dX7_goRun_124 : decode cX7_goRun 124 = .ok (.invokevirtual 448, 3) := by decide +kernel
theorem dX7_goRun_127 : decode cX7_goRun 127 = .ok (.ifCond .ne 5, 3) := by decide +kernel
theorem dX7_goRun_130 : decode cX7_goRun 130 = .ok (.iload_n 1, 1) := by decide +kernel
theorem dX7_goRun_131 : decode cX7_goRun 131 = .ok (.ireturn, 1) := by decide +kernel
theorem dX7_goRun_132 : decode cX7_goRun 132 = .ok (.aload_n 0, 1) := by decide +kernel
theorem dX7_goRun_133 : decode cX7_goRun 133 = .ok (.invokevirtual 451, 3) := by decide +kernel
theorem dX7_goRun_136 : decode cX7_goRun 136 = .ok (.iinc 1 1, 3) := by decide +kernel
theorem dX7_goRun_139 : decode cX7_goRun 139 = .ok (.aload_n 0, 1) := by decide +kernel
theorem dX7_goRun_140 : decode cX7_goRun 140 = .ok (.getfield 50, 3) := by decide +kernel
theorem dX7_goRun_143 : decode cX7_goRun 143 = .ok (.aload_n 0, 1) := by decide +kernel
theorem dX7_goRun_144 : decode cX7_goRun 144 = .ok (.getfield 439, 3) := by decide +kernel
theorem dX7_goRun_147 : decode cX7_goRun 147 = .ok (.iaload, 1) := by decide +kernel
theorem dX7_goRun_148 : decode cX7_goRun 148 = .ok (.ifCond .ne 14, 3) := by decide +kernel
theorem dX7_goRun_151 : decode cX7_goRun 151 = .ok (.aload_n 0, 1) := by decide +kernel
theorem dX7_goRun_152 : decode cX7_goRun 152 = .ok (.getfield 308, 3) := by decide +kernel
theorem dX7_goRun_155 : decode cX7_goRun 155 = .ok (.bipush (-2), 2) := by decide +kernel
theorem dX7_goRun_157 : decode cX7_goRun 157 = .ok (.if_icmp .ne 5, 3) := by decide +kernel
theorem dX7_goRun_160 : decode cX7_goRun 160 = .ok (.iload_n 1, 1) := by decide +kernel
theorem dX7_goRun_161 : decode cX7_goRun 161 = .ok (.ireturn, 1) := by decide +kernel
theorem dX7_goRun_162 : decode cX7_goRun 162 = .ok (.aload_n 0, 1) := by decide +kernel
theorem dX7_goRun_163 : decode cX7_goRun 163 = .ok (.dup, 1) := by decide +kernel
theorem dX7_goRun_164 : decode cX7_goRun 164 = .ok (.getfield 439, 3) := by decide +kernel
theorem dX7_goRun_167 : decode cX7_goRun 167 = .ok (.iconst 1, 1) := by decide +kernel
theorem dX7_goRun_168 : decode cX7_goRun 168 = .ok (.iadd, 1) := by decide +kernel
theorem dX7_goRun_169 : decode cX7_goRun 169 = .ok (.putfield 439, 3) := by decide +kernel
theorem dX7_goRun_172 : decode cX7_goRun 172 = .ok (.aload_n 0, 1) := by decide +kernel
theorem dX7_goRun_173 : decode cX7_goRun 173 = .ok (.invokevirtual 442, 3) := by decide +kernel
theorem dX7_goRun_176 : decode cX7_goRun 176 = .ok (.goto (-160), 3) := by decide +kernel
theorem dX7_goRun_179 : decode cX7_goRun 179 = .ok (.iload_n 1, 1) := by decide +kernel
theorem dX7_goRun_180 : decode cX7_goRun 180 = .ok (.ireturn, 1) := by decide +kernel
theorem dX7_run_0 : decode cX7_run 0 = .ok (.aload_n 0, 1) := by decide +kernel
theorem dX7_run_1 : decode cX7_run 1 = .ok (.getfield 433, 3) := by decide +kernel
theorem dX7_run_4 : decode cX7_run 4 = .ok (.ifCond .ne 5, 3) := by decide +kernel
theorem dX7_run_7 : decode cX7_run 7 = .ok (.iconst (-1), 1) := by decide +kernel
theorem dX7_run_8 : decode cX7_run 8 = .ok (.ireturn, 1) := by decide +kernel
theorem dX7_run_9 : decode cX7_run 9 = .ok (.aload_n 0, 1) := by decide +kernel
theorem dX7_run_10 : decode cX7_run 10 = .ok (.invokevirtual 219, 3) := by decide +kernel
theorem dX7_run_13 : decode cX7_run 13 = .ok (.aload_n 0, 1) := by decide +kernel
theorem dX7_run_14 : decode cX7_run 14 = .ok (.invokevirtual 454, 3) := by decide +kernel
theorem dX7_run_17 : decode cX7_run 17 = .ok (.ireturn, 1) := by decide +kernel
theorem dX7_apart_0 : decode cX7_apart 0 = .ok (.aload_n 0, 1) := by decide +kernel
theorem dX7_apart_1 : decode cX7_apart 1 = .ok (.invokevirtual 283, 3) := by decide +kernel
theorem dX7_apart_4 : decode cX7_apart 4 = .ok (.aload_n 0, 1) := by decide +kernel
theorem dX7_apart_5 : decode cX7_apart 5 = .ok (.iload_n 1, 1) := by decide +kernel
theorem dX7_apart_6 : decode cX7_apart 6 = .ok (.invokevirtual 311, 3) := by decide +kernel
theorem dX7_apart_9 : decode cX7_apart 9 = .ok (.aload_n 0, 1) := by decide +kernel
theorem dX7_apart_10 : decode cX7_apart 10 = .ok (.invokevirtual 454, 3) := by decide +kernel
theorem dX7_apart_13 : decode cX7_apart 13 = .ok (.istore_n 3, 1) := by decide +kernel
theorem dX7_apart_14 : decode cX7_apart 14 = .ok (.iload_n 2, 1) := by decide +kernel
theorem dX7_apart_15 : decode cX7_apart 15 = .ok (.ifCond .ne 7, 3) := by decide +kernel
theorem dX7_apart_18 : decode cX7_apart 18 = .ok (.iload_n 3, 1) := by decide +kernel
theorem dX7_apart_19 : decode cX7_apart 19 = .ok (.goto 8, 3) := by decide +kernel
theorem dX7_apart_22 : decode cX7_apart 22 = .ok (.aload_n 0, 1) := by decide +kernel
theorem dX7_apart_23 : decode cX7_apart 23 = .ok (.iload_n 2, 1) := by decide +kernel
theorem dX7_apart_24 : decode cX7_apart 24 = .ok (.invokevirtual 457, 3) := by decide +kernel
theorem dX7_apart_27 : decode cX7_apart 27 = .ok (.istore 4, 2) := by decide +kernel
theorem dX7_apart_29 : decode cX7_apart 29 = .ok (.aload_n 0, 1) := by decide +kernel
theorem dX7_apart_30 : decode cX7_apart 30 = .ok (.invokevirtual 289, 3) := by decide +kernel
theorem dX7_apart_33 : decode cX7_apart 33 = .ok (.iload 4, 2) := by decide +kernel
theorem dX7_apart_35 : decode cX7_apart 35 = .ok (.ireturn, 1) := by decide +kernel
theorem dX7_apartTells_0 : decode cX7_apartTells 0 = .ok (.iload_n 1, 1) := by decide +kernel
theorem dX7_apartTells_1 : decode cX7_apartTells 1 = .ok (.tableswitch 72 1 5 #[35, 43, 51, 59, 67], 35) := by decide +kernel
theorem dX7_apartTells_36 : decode cX7_apartTells 36 = .ok (.aload_n 0, 1) := by decide +kernel
theorem dX7_apartTells_37 : decode cX7_apartTells 37 = .ok (.sipush 730, 3) := by decide +kernel
theorem dX7_apartTells_40 : decode cX7_apartTells 40 = .ok (.invokevirtual 295, 3) := by decide +kernel
theorem dX7_apartTells_43 : decode cX7_apartTells 43 = .ok (.ireturn, 1) := by decide +kernel
theorem dX7_apartTells_44 : decode cX7_apartTells 44 = .ok (.aload_n 0, 1) := by decide +kernel
theorem dX7_apartTells_45 : decode cX7_apartTells 45 = .ok (.sipush 732, 3) := by decide +kernel
theorem dX7_apartTells_48 : decode cX7_apartTells 48 = .ok (.invokevirtual 295, 3) := by decide +kernel
theorem dX7_apartTells_51 : decode cX7_apartTells 51 = .ok (.ireturn, 1) := by decide +kernel
theorem dX7_apartTells_52 : decode cX7_apartTells 52 = .ok (.aload_n 0, 1) := by decide +kernel
theorem dX7_apartTells_53 : decode cX7_apartTells 53 = .ok (.sipush 731, 3) := by decide +kernel
theorem dX7_apartTells_56 : decode cX7_apartTells 56 = .ok (.invokevirtual 295, 3) := by decide +kernel
theorem dX7_apartTells_59 : decode cX7_apartTells 59 = .ok (.ireturn, 1) := by decide +kernel
theorem dX7_apartTells_60 : decode cX7_apartTells 60 = .ok (.aload_n 0, 1) := by decide +kernel
theorem dX7_apartTells_61 : decode cX7_apartTells 61 = .ok (.sipush 729, 3) := by decide +kernel
theorem dX7_apartTells_64 : decode cX7_apartTells 64 = .ok (.invokevirtual 295, 3) := by decide +kernel
theorem dX7_apartTells_67 : decode cX7_apartTells 67 = .ok (.ireturn, 1) := by decide +kernel
theorem dX7_apartTells_68 : decode cX7_apartTells 68 = .ok (.aload_n 0, 1) := by decide +kernel
theorem dX7_apartTells_69 : decode cX7_apartTells 69 = .ok (.invokevirtual 164, 3) := by decide +kernel
theorem dX7_apartTells_72 : decode cX7_apartTells 72 = .ok (.ireturn, 1) := by decide +kernel
theorem dX7_apartTells_73 : decode cX7_apartTells 73 = .ok (.aload_n 0, 1) := by decide +kernel
theorem dX7_apartTells_74 : decode cX7_apartTells 74 = .ok (.iconst (-1), 1) := by decide +kernel
theorem dX7_apartTells_75 : decode cX7_apartTells 75 = .ok (.invokevirtual 268, 3) := by decide +kernel
theorem dX7_apartTells_78 : decode cX7_apartTells 78 = .ok (.ireturn, 1) := by decide +kernel
theorem dX7_runBy_0 : decode cX7_runBy 0 = .ok (.aload_n 0, 1) := by decide +kernel
theorem dX7_runBy_1 : decode cX7_runBy 1 = .ok (.getfield 433, 3) := by decide +kernel
theorem dX7_runBy_4 : decode cX7_runBy 4 = .ok (.ifCond .eq 22, 3) := by decide +kernel
theorem dX7_runBy_7 : decode cX7_runBy 7 = .ok (.iload_n 1, 1) := by decide +kernel
theorem dX7_runBy_8 : decode cX7_runBy 8 = .ok (.iconst 0, 1) := by decide +kernel
theorem dX7_runBy_9 : decode cX7_runBy 9 = .ok (.iconst 3, 1) := by decide +kernel
theorem dX7_runBy_10 : decode cX7_runBy 10 = .ok (.invokestatic 94, 3) := by decide +kernel
theorem dX7_runBy_13 : decode cX7_runBy 13 = .ok (.ifCond .eq 13, 3) := by decide +kernel
theorem dX7_runBy_16 : decode cX7_runBy 16 = .ok (.iload_n 2, 1) := by decide +kernel
theorem dX7_runBy_17 : decode cX7_runBy 17 = .ok (.iconst 0, 1) := by decide +kernel
theorem dX7_runBy_18 : decode cX7_runBy 18 = .ok (.bipush 6, 2) := by decide +kernel
theorem dX7_runBy_20 : decode cX7_runBy 20 = .ok (.invokestatic 94, 3) := by decide +kernel
theorem dX7_runBy_23 : decode cX7_runBy 23 = .ok (.ifCond .ne 5, 3) := by decide +kernel
theorem dX7_runBy_26 : decode cX7_runBy 26 = .ok (.iconst (-1), 1) := by decide +kernel
theorem dX7_runBy_27 : decode cX7_runBy 27 = .ok (.ireturn, 1) := by decide +kernel
theorem dX7_runBy_28 : decode cX7_runBy 28 = .ok (.aload_n 0, 1) := by decide +kernel
theorem dX7_runBy_29 : decode cX7_runBy 29 = .ok (.iload_n 1, 1) := by decide +kernel
theorem dX7_runBy_30 : decode cX7_runBy 30 = .ok (.iload_n 2, 1) := by decide +kernel
theorem dX7_runBy_31 : decode cX7_runBy 31 = .ok (.invokevirtual 460, 3) := by decide +kernel
theorem dX7_runBy_34 : decode cX7_runBy 34 = .ok (.ireturn, 1) := by decide +kernel
theorem dX7_cheapest_0 : decode cX7_cheapest 0 = .ok (.aload_n 0, 1) := by decide +kernel
theorem dX7_cheapest_1 : decode cX7_cheapest 1 = .ok (.getfield 433, 3) := by decide +kernel
theorem dX7_cheapest_4 : decode cX7_cheapest 4 = .ok (.ifCond .eq 12, 3) := by decide +kernel
theorem dX7_cheapest_7 : decode cX7_cheapest 7 = .ok (.iload_n 1, 1) := by decide +kernel
theorem dX7_cheapest_8 : decode cX7_cheapest 8 = .ok (.iconst 0, 1) := by decide +kernel
theorem dX7_cheapest_9 : decode cX7_cheapest 9 = .ok (.iconst 1, 1) := by decide +kernel
theorem dX7_cheapest_10 : decode cX7_cheapest 10 = .ok (.invokestatic 94, 3) := by decide +kernel
theorem dX7_cheapest_13 : decode cX7_cheapest 13 = .ok (.ifCond .ne 5, 3) := by decide +kernel
theorem dX7_cheapest_16 : decode cX7_cheapest 16 = .ok (.iconst (-1), 1) := by decide +kernel
theorem dX7_cheapest_17 : decode cX7_cheapest 17 = .ok (.ireturn, 1) := by decide +kernel
theorem dX7_cheapest_18 : decode cX7_cheapest 18 = .ok (.iconst 0, 1) := by decide +kernel
theorem dX7_cheapest_19 : decode cX7_cheapest 19 = .ok (.istore_n 2, 1) := by decide +kernel
theorem dX7_cheapest_20 : decode cX7_cheapest 20 = .ok (.aload_n 0, 1) := by decide +kernel
theorem dX7_cheapest_21 : decode cX7_cheapest 21 = .ok (.iconst 0, 1) := by decide +kernel
theorem dX7_cheapest_22 : decode cX7_cheapest 22 = .ok (.iconst 1, 1) := by decide +kernel
theorem dX7_cheapest_23 : decode cX7_cheapest 23 = .ok (.invokevirtual 460, 3) := by decide +kernel
theorem dX7_cheapest_26 : decode cX7_cheapest 26 = .ok (.istore_n 3, 1) := by decide +kernel
theorem dX7_cheapest_27 : decode cX7_cheapest 27 = .ok (.iconst 1, 1) := by decide +kernel
theorem dX7_cheapest_28 : decode cX7_cheapest 28 = .ok (.istore 4, 2) := by decide +kernel
theorem dX7_cheapest_30 : decode cX7_cheapest 30 = .ok (.iload 4, 2) := by decide +kernel
theorem dX7_cheapest_32 : decode cX7_cheapest 32 = .ok (.iconst 2, 1) := by decide +kernel
theorem dX7_cheapest_33 : decode cX7_cheapest 33 = .ok (.if_icmp .gt 33, 3) := by decide +kernel
theorem dX7_cheapest_36 : decode cX7_cheapest 36 = .ok (.aload_n 0, 1) := by decide +kernel
theorem dX7_cheapest_37 : decode cX7_cheapest 37 = .ok (.iload 4, 2) := by decide +kernel
theorem dX7_cheapest_39 : decode cX7_cheapest 39 = .ok (.iconst 1, 1) := by decide +kernel
theorem dX7_cheapest_40 : decode cX7_cheapest 40 = .ok (.invokevirtual 460, 3) := by decide +kernel
theorem dX7_cheapest_43 : decode cX7_cheapest 43 = .ok (.istore 5, 2) := by decide +kernel
theorem dX7_cheapest_45 : decode cX7_cheapest 45 = .ok (.iload 5, 2) := by decide +kernel
theorem dX7_cheapest_47 : decode cX7_cheapest 47 = .ok (.iload_n 3, 1) := by decide +kernel
theorem dX7_cheapest_48 : decode cX7_cheapest 48 = .ok (.if_icmp .lt 6, 3) := by decide +kernel
theorem dX7_cheapest_51 : decode cX7_cheapest 51 = .ok (.goto 9, 3) := by decide +kernel
theorem dX7_cheapest_54 : decode cX7_cheapest 54 = .ok (.iload 4, 2) := by decide +kernel
theorem dX7_cheapest_56 : decode cX7_cheapest 56 = .ok (.istore_n 2, 1) := by decide +kernel
theorem dX7_cheapest_57 : decode cX7_cheapest 57 = .ok (.iload 5, 2) := by decide +kernel
theorem dX7_cheapest_59 : decode cX7_cheapest 59 = .ok (.istore_n 3, 1) := by decide +kernel
theorem dX7_cheapest_60 : decode cX7_cheapest 60 = .ok (.iinc 4 1, 3) := by decide +kernel
theorem dX7_cheapest_63 : decode cX7_cheapest 63 = .ok (.goto (-33), 3) := by decide +kernel
theorem dX7_cheapest_66 : decode cX7_cheapest 66 = .ok (.iload_n 1, 1) := by decide +kernel
theorem dX7_cheapest_67 : decode cX7_cheapest 67 = .ok (.ifCond .ne 7, 3) := by decide +kernel
theorem dX7_cheapest_70 : decode cX7_cheapest 70 = .ok (.iload_n 2, 1) := by decide +kernel
theorem dX7_cheapest_71 : decode cX7_cheapest 71 = .ok (.goto 4, 3) := by decide +kernel
theorem dX7_cheapest_74 : decode cX7_cheapest 74 = .ok (.iload_n 3, 1) := by decide +kernel
theorem dX7_cheapest_75 : decode cX7_cheapest 75 = .ok (.ireturn, 1) := by decide +kernel
theorem dX7_suits_0 : decode cX7_suits 0 = .ok (.aload_n 0, 1) := by decide +kernel
theorem dX7_suits_1 : decode cX7_suits 1 = .ok (.getfield 433, 3) := by decide +kernel
theorem dX7_suits_4 : decode cX7_suits 4 = .ok (.ifCond .ne 5, 3) := by decide +kernel
theorem dX7_suits_7 : decode cX7_suits 7 = .ok (.iconst (-1), 1) := by decide +kernel
theorem dX7_suits_8 : decode cX7_suits 8 = .ok (.ireturn, 1) := by decide +kernel
theorem dX7_suits_9 : decode cX7_suits 9 = .ok (.iconst (-1), 1) := by decide +kernel
theorem dX7_suits_10 : decode cX7_suits 10 = .ok (.istore_n 1, 1) := by decide +kernel
theorem dX7_suits_11 : decode cX7_suits 11 = .ok (.aload_n 0, 1) := by decide +kernel
theorem dX7_suits_12 : decode cX7_suits 12 = .ok (.invokevirtual 283, 3) := by decide +kernel
theorem dX7_suits_15 : decode cX7_suits 15 = .ok (.iconst 0, 1) := by decide +kernel
theorem dX7_suits_16 : decode cX7_suits 16 = .ok (.istore_n 2, 1) := by decide +kernel
theorem dX7_suits_17 : decode cX7_suits 17 = .ok (.iload_n 2, 1) := by decide +kernel
theorem dX7_suits_18 : decode cX7_suits 18 = .ok (.bipush 16, 2) := by decide +kernel
theorem dX7_suits_20 : decode cX7_suits 20 = .ok (.if_icmp .gt 58, 3) := by decide +kernel
theorem dX7_suits_23 : decode cX7_suits 23 = .ok (.iload_n 1, 1) := by decide +kernel
theorem dX7_suits_24 : decode cX7_suits 24 = .ok (.ifCond .ge 54, 3) := by decide +kernel
theorem dX7_suits_27 : decode cX7_suits 27 = .ok (.aload_n 0, 1) := by decide +kernel
theorem dX7_suits_28 : decode cX7_suits 28 = .ok (.aload_n 0, 1) := by decide +kernel
theorem dX7_suits_29 : decode cX7_suits 29 = .ok (.getfield 7, 3) := by decide +kernel
theorem dX7_suits_32 : decode cX7_suits 32 = .ok (.sipush 735, 3) := by decide +kernel
theorem dX7_suits_35 : decode cX7_suits 35 = .ok (.iaload, 1) := by decide +kernel
theorem dX7_suits_36 : decode cX7_suits 36 = .ok (.invokevirtual 311, 3) := by decide +kernel
theorem dX7_suits_39 : decode cX7_suits 39 = .ok (.aload_n 0, 1) := by decide +kernel
theorem dX7_suits_40 : decode cX7_suits 40 = .ok (.getfield 7, 3) := by decide +kernel
theorem dX7_suits_43 : decode cX7_suits 43 = .ok (.sipush 737, 3) := by decide +kernel
theorem dX7_suits_46 : decode cX7_suits 46 = .ok (.iload_n 2, 1) := by decide +kernel
theorem dX7_suits_47 : decode cX7_suits 47 = .ok (.iastore, 1) := by decide +kernel
theorem dX7_suits_48 : decode cX7_suits 48 = .ok (.aload_n 0, 1) := by decide +kernel
theorem dX7_suits_49 : decode cX7_suits 49 = .ok (.aload_n 0, 1) := by decide +kernel
theorem dX7_suits_50 : decode cX7_suits 50 = .ok (.invokevirtual 454, 3) := by decide +kernel
theorem dX7_suits_53 : decode cX7_suits 53 = .ok (.putfield 308, 3) := by decide +kernel
theorem dX7_suits_56 : decode cX7_suits 56 = .ok (.aload_n 0, 1) := by decide +kernel
theorem dX7_suits_57 : decode cX7_suits 57 = .ok (.sipush 731, 3) := by decide +kernel
theorem dX7_suits_60 : decode cX7_suits 60 = .ok (.invokevirtual 295, 3) := by decide +kernel
theorem dX7_suits_63 : decode cX7_suits 63 = .ok (.ifCond .ne 5, 3) := by decide +kernel
theorem dX7_suits_66 : decode cX7_suits 66 = .ok (.iload_n 2, 1) := by decide +kernel
theorem dX7_suits_67 : decode cX7_suits 67 = .ok (.istore_n 1, 1) := by decide +kernel
theorem dX7_suits_68 : decode cX7_suits 68 = .ok (.aload_n 0, 1) := by decide +kernel
theorem dX7_suits_69 : decode cX7_suits 69 = .ok (.invokevirtual 289, 3) := by decide +kernel
theorem dX7_suits_72 : decode cX7_suits 72 = .ok (.iinc 2 1, 3) := by decide +kernel
theorem dX7_suits_75 : decode cX7_suits 75 = .ok (.goto (-58), 3) := by decide +kernel
theorem dX7_suits_78 : decode cX7_suits 78 = .ok (.iload_n 1, 1) := by decide +kernel
theorem dX7_suits_79 : decode cX7_suits 79 = .ok (.ireturn, 1) := by decide +kernel
theorem dX7_keepAct_0 : decode cX7_keepAct 0 = .ok (.aload_n 0, 1) := by decide +kernel
theorem dX7_keepAct_1 : decode cX7_keepAct 1 = .ok (.getfield 250, 3) := by decide +kernel
theorem dX7_keepAct_4 : decode cX7_keepAct 4 = .ok (.bipush 20, 2) := by decide +kernel
theorem dX7_keepAct_6 : decode cX7_keepAct 6 = .ok (.if_icmp .ne 44, 3) := by decide +kernel
theorem dX7_keepAct_9 : decode cX7_keepAct 9 = .ok (.iconst 0, 1) := by decide +kernel
theorem dX7_keepAct_10 : decode cX7_keepAct 10 = .ok (.istore_n 1, 1) := by decide +kernel
theorem dX7_keepAct_11 : decode cX7_keepAct 11 = .ok (.iload_n 1, 1) := by decide +kernel
theorem dX7_keepAct_12 : decode cX7_keepAct 12 = .ok (.sipush 15800, 3) := by decide +kernel
theorem dX7_keepAct_15 : decode cX7_keepAct 15 = .ok (.if_icmp .ge 25, 3) := by decide +kernel
theorem dX7_keepAct_18 : decode cX7_keepAct 18 = .ok (.aload_n 0, 1) := by decide +kernel
theorem dX7_keepAct_19 : decode cX7_keepAct 19 = .ok (.getfield 81, 3) := by decide +kernel
theorem dX7_keepAct_22 : decode cX7_keepAct 22 = .ok (.iload_n 1, 1) := by decide +kernel
theorem dX7_keepAct_23 : decode cX7_keepAct 23 = .ok (.aload_n 0, 1) := by decide +kernel
theorem dX7_keepAct_24 : decode cX7_keepAct 24 = .ok (.getfield 81, 3) := by decide +kernel
theorem dX7_keepAct_27 : decode cX7_keepAct 27 = .ok (.iload_n 1, 1) := by decide +kernel
theorem dX7_keepAct_28 : decode cX7_keepAct 28 = .ok (.sipush 790, 3) := by decide +kernel
theorem dX7_keepAct_31 : decode cX7_keepAct 31 = .ok (.iadd, 1) := by decide +kernel
theorem dX7_keepAct_32 : decode cX7_keepAct 32 = .ok (.iaload, 1) := by decide +kernel
theorem dX7_keepAct_33 : decode cX7_keepAct 33 = .ok (.iastore, 1) := by decide +kernel
theorem dX7_keepAct_34 : decode cX7_keepAct 34 = .ok (.iinc 1 1, 3) := by decide +kernel
theorem dX7_keepAct_37 : decode cX7_keepAct 37 = .ok (.goto (-26), 3) := by decide +kernel
theorem dX7_keepAct_40 : decode cX7_keepAct 40 = .ok (.aload_n 0, 1) := by decide +kernel
theorem dX7_keepAct_41 : decode cX7_keepAct 41 = .ok (.dup, 1) := by decide +kernel
theorem dX7_keepAct_42 : decode cX7_keepAct 42 = .ok (.getfield 250, 3) := by decide +kernel
theorem dX7_keepAct_45 : decode cX7_keepAct 45 = .ok (.iconst 1, 1) := by decide +kernel
theorem dX7_keepAct_46 : decode cX7_keepAct 46 = .ok (.isub, 1) := by decide +kernel
theorem dX7_keepAct_47 : decode cX7_keepAct 47 = .ok (.putfield 250, 3) := by decide +kernel
theorem dX7_keepAct_50 : decode cX7_keepAct 50 = .ok (.iconst 0, 1) := by decide +kernel
theorem dX7_keepAct_51 : decode cX7_keepAct 51 = .ok (.istore_n 1, 1) := by decide +kernel
theorem dX7_keepAct_52 : decode cX7_keepAct 52 = .ok (.iload_n 1, 1) := by decide +kernel
theorem dX7_keepAct_53 : decode cX7_keepAct 53 = .ok (.sipush 790, 3) := by decide +kernel
theorem dX7_keepAct_56 : decode cX7_keepAct 56 = .ok (.if_icmp .ge 30, 3) := by decide +kernel
theorem dX7_keepAct_59 : decode cX7_keepAct 59 = .ok (.aload_n 0, 1) := by decide +kernel
theorem dX7_keepAct_60 : decode cX7_keepAct 60 = .ok (.getfield 81, 3) := by decide +kernel
theorem dX7_keepAct_63 : decode cX7_keepAct 63 = .ok (.sipush 790, 3) := by decide +kernel
theorem dX7_keepAct_66 : decode cX7_keepAct 66 = .ok (.aload_n 0, 1) := by decide +kernel
theorem dX7_keepAct_67 : decode cX7_keepAct 67 = .ok (.getfield 250, 3) := by decide +kernel
theorem dX7_keepAct_70 : decode cX7_keepAct 70 = .ok (.imul, 1) := by decide +kernel
theorem dX7_keepAct_71 : decode cX7_keepAct 71 = .ok (.iload_n 1, 1) := by decide +kernel
theorem dX7_keepAct_72 : decode cX7_keepAct 72 = .ok (.iadd, 1) := by decide +kernel
theorem dX7_keepAct_73 : decode cX7_keepAct 73 = .ok (.aload_n 0, 1) := by decide +kernel
theorem dX7_keepAct_74 : decode cX7_keepAct 74 = .ok (.getfield 7, 3) := by decide +kernel
theorem dX7_keepAct_77 : decode cX7_keepAct 77 = .ok (.iload_n 1, 1) := by decide +kernel
theorem dX7_keepAct_78 : decode cX7_keepAct 78 = .ok (.iaload, 1) := by decide +kernel
theorem dX7_keepAct_79 : decode cX7_keepAct 79 = .ok (.iastore, 1) := by decide +kernel
theorem dX7_keepAct_80 : decode cX7_keepAct 80 = .ok (.iinc 1 1, 3) := by decide +kernel
theorem dX7_keepAct_83 : decode cX7_keepAct 83 = .ok (.goto (-31), 3) := by decide +kernel
theorem dX7_keepAct_86 : decode cX7_keepAct 86 = .ok (.aload_n 0, 1) := by decide +kernel
theorem dX7_keepAct_87 : decode cX7_keepAct 87 = .ok (.dup, 1) := by decide +kernel
theorem dX7_keepAct_88 : decode cX7_keepAct 88 = .ok (.getfield 250, 3) := by decide +kernel
theorem dX7_keepAct_91 : decode cX7_keepAct 91 = .ok (.iconst 1, 1) := by decide +kernel
theorem dX7_keepAct_92 : decode cX7_keepAct 92 = .ok (.iadd, 1) := by decide +kernel
theorem dX7_keepAct_93 : decode cX7_keepAct 93 = .ok (.putfield 250, 3) := by decide +kernel
theorem dX7_keepAct_96 : decode cX7_keepAct 96 = .ok (.aload_n 0, 1) := by decide +kernel
theorem dX7_keepAct_97 : decode cX7_keepAct 97 = .ok (.iconst 0, 1) := by decide +kernel
theorem dX7_keepAct_98 : decode cX7_keepAct 98 = .ok (.putfield 253, 3) := by decide +kernel
theorem dX7_keepAct_101 : decode cX7_keepAct 101 = .ok (.return_, 1) := by decide +kernel
theorem dX7_swapAll_0 : decode cX7_swapAll 0 = .ok (.iconst 0, 1) := by decide +kernel
theorem dX7_swapAll_1 : decode cX7_swapAll 1 = .ok (.istore_n 1, 1) := by decide +kernel
theorem dX7_swapAll_2 : decode cX7_swapAll 2 = .ok (.iload_n 1, 1) := by decide +kernel
theorem dX7_swapAll_3 : decode cX7_swapAll 3 = .ok (.sipush 790, 3) := by decide +kernel
theorem dX7_swapAll_6 : decode cX7_swapAll 6 = .ok (.if_icmp .ge 53, 3) := by decide +kernel
theorem dX7_swapAll_9 : decode cX7_swapAll 9 = .ok (.aload_n 0, 1) := by decide +kernel
theorem dX7_swapAll_10 : decode cX7_swapAll 10 = .ok (.getfield 81, 3) := by decide +kernel
theorem dX7_swapAll_13 : decode cX7_swapAll 13 = .ok (.sipush 790, 3) := by decide +kernel
theorem dX7_swapAll_16 : decode cX7_swapAll 16 = .ok (.aload_n 0, 1) := by decide +kernel
theorem dX7_swapAll_17 : decode cX7_swapAll 17 = .ok (.getfield 250, 3) := by decide +kernel
theorem dX7_swapAll_20 : decode cX7_swapAll 20 = .ok (.imul, 1) := by decide +kernel
theorem dX7_swapAll_21 : decode cX7_swapAll 21 = .ok (.iload_n 1, 1) := by decide +kernel
theorem dX7_swapAll_22 : decode cX7_swapAll 22 = .ok (.iadd, 1) := by decide +kernel
theorem dX7_swapAll_23 : decode cX7_swapAll 23 = .ok (.iaload, 1) := by decide +kernel
theorem dX7_swapAll_24 : decode cX7_swapAll 24 = .ok (.istore_n 2, 1) := by decide +kernel
theorem dX7_swapAll_25 : decode cX7_swapAll 25 = .ok (.aload_n 0, 1) := by decide +kernel
theorem dX7_swapAll_26 : decode cX7_swapAll 26 = .ok (.getfield 81, 3) := by decide +kernel
theorem dX7_swapAll_29 : decode cX7_swapAll 29 = .ok (.sipush 790, 3) := by decide +kernel
theorem dX7_swapAll_32 : decode cX7_swapAll 32 = .ok (.aload_n 0, 1) := by decide +kernel
theorem dX7_swapAll_33 : decode cX7_swapAll 33 = .ok (.getfield 250, 3) := by decide +kernel
theorem dX7_swapAll_36 : decode cX7_swapAll 36 = .ok (.imul, 1) := by decide +kernel
theorem dX7_swapAll_37 : decode cX7_swapAll 37 = .ok (.iload_n 1, 1) := by decide +kernel
theorem dX7_swapAll_38 : decode cX7_swapAll 38 = .ok (.iadd, 1) := by decide +kernel
theorem dX7_swapAll_39 : decode cX7_swapAll 39 = .ok (.aload_n 0, 1) := by decide +kernel
theorem dX7_swapAll_40 : decode cX7_swapAll 40 = .ok (.getfield 7, 3) := by decide +kernel
theorem dX7_swapAll_43 : decode cX7_swapAll 43 = .ok (.iload_n 1, 1) := by decide +kernel
theorem dX7_swapAll_44 : decode cX7_swapAll 44 = .ok (.iaload, 1) := by decide +kernel
theorem dX7_swapAll_45 : decode cX7_swapAll 45 = .ok (.iastore, 1) := by decide +kernel
theorem dX7_swapAll_46 : decode cX7_swapAll 46 = .ok (.aload_n 0, 1) := by decide +kernel
theorem dX7_swapAll_47 : decode cX7_swapAll 47 = .ok (.getfield 7, 3) := by decide +kernel
theorem dX7_swapAll_50 : decode cX7_swapAll 50 = .ok (.iload_n 1, 1) := by decide +kernel
theorem dX7_swapAll_51 : decode cX7_swapAll 51 = .ok (.iload_n 2, 1) := by decide +kernel
theorem dX7_swapAll_52 : decode cX7_swapAll 52 = .ok (.iastore, 1) := by decide +kernel
theorem dX7_swapAll_53 : decode cX7_swapAll 53 = .ok (.iinc 1 1, 3) := by decide +kernel
theorem dX7_swapAll_56 : decode cX7_swapAll 56 = .ok (.goto (-54), 3) := by decide +kernel
theorem dX7_swapAll_59 : decode cX7_swapAll 59 = .ok (.return_, 1) := by decide +kernel
theorem dX7_undo_0 : decode cX7_undo 0 = .ok (.aload_n 0, 1) := by decide +kernel
theorem dX7_undo_1 : decode cX7_undo 1 = .ok (.getfield 250, 3) := by decide +kernel
theorem dX7_undo_4 : decode cX7_undo 4 = .ok (.ifCond .ne 5, 3) := by decide +kernel
theorem dX7_undo_7 : decode cX7_undo 7 = .ok (.iconst 0, 1) := by decide +kernel
theorem dX7_undo_8 : decode cX7_undo 8 = .ok (.ireturn, 1) := by decide +kernel
theorem dX7_undo_9 : decode cX7_undo 9 = .ok (.aload_n 0, 1) := by decide +kernel
theorem dX7_undo_10 : decode cX7_undo 10 = .ok (.dup, 1) := by decide +kernel
theorem dX7_undo_11 : decode cX7_undo 11 = .ok (.getfield 250, 3) := by decide +kernel
theorem dX7_undo_14 : decode cX7_undo 14 = .ok (.iconst 1, 1) := by decide +kernel
theorem dX7_undo_15 : decode cX7_undo 15 = .ok (.isub, 1) := by decide +kernel
theorem dX7_undo_16 : decode cX7_undo 16 = .ok (.putfield 250, 3) := by decide +kernel
theorem dX7_undo_19 : decode cX7_undo 19 = .ok (.aload_n 0, 1) := by decide +kernel
theorem dX7_undo_20 : decode cX7_undo 20 = .ok (.dup, 1) := by decide +kernel
theorem dX7_undo_21 : decode cX7_undo 21 = .ok (.getfield 253, 3) := by decide +kernel
theorem dX7_undo_24 : decode cX7_undo 24 = .ok (.iconst 1, 1) := by decide +kernel
theorem dX7_undo_25 : decode cX7_undo 25 = .ok (.iadd, 1) := by decide +kernel
theorem dX7_undo_26 : decode cX7_undo 26 = .ok (.putfield 253, 3) := by decide +kernel
theorem dX7_undo_29 : decode cX7_undo 29 = .ok (.aload_n 0, 1) := by decide +kernel
theorem dX7_undo_30 : decode cX7_undo 30 = .ok (.invokevirtual 463, 3) := by decide +kernel
theorem dX7_undo_33 : decode cX7_undo 33 = .ok (.iconst 1, 1) := by decide +kernel
theorem dX7_undo_34 : decode cX7_undo 34 = .ok (.ireturn, 1) := by decide +kernel
theorem dX7_redo_0 : decode cX7_redo 0 = .ok (.aload_n 0, 1) := by decide +kernel
theorem dX7_redo_1 : decode cX7_redo 1 = .ok (.getfield 253, 3) := by decide +kernel
theorem dX7_redo_4 : decode cX7_redo 4 = .ok (.ifCond .ne 5, 3) := by decide +kernel
theorem dX7_redo_7 : decode cX7_redo 7 = .ok (.iconst 0, 1) := by decide +kernel
theorem dX7_redo_8 : decode cX7_redo 8 = .ok (.ireturn, 1) := by decide +kernel
theorem dX7_redo_9 : decode cX7_redo 9 = .ok (.aload_n 0, 1) := by decide +kernel
theorem dX7_redo_10 : decode cX7_redo 10 = .ok (.invokevirtual 463, 3) := by decide +kernel
theorem dX7_redo_13 : decode cX7_redo 13 = .ok (.aload_n 0, 1) := by decide +kernel
theorem dX7_redo_14 : decode cX7_redo 14 = .ok (.dup, 1) := by decide +kernel
theorem dX7_redo_15 : decode cX7_redo 15 = .ok (.getfield 250, 3) := by decide +kernel
theorem dX7_redo_18 : decode cX7_redo 18 = .ok (.iconst 1, 1) := by decide +kernel
theorem dX7_redo_19 : decode cX7_redo 19 = .ok (.iadd, 1) := by decide +kernel
theorem dX7_redo_20 : decode cX7_redo 20 = .ok (.putfield 250, 3) := by decide +kernel
theorem dX7_redo_23 : decode cX7_redo 23 = .ok (.aload_n 0, 1) := by decide +kernel
theorem dX7_redo_24 : decode cX7_redo 24 = .ok (.dup, 1) := by decide +kernel
theorem dX7_redo_25 : decode cX7_redo 25 = .ok (.getfield 253, 3) := by decide +kernel
theorem dX7_redo_28 : decode cX7_redo 28 = .ok (.iconst 1, 1) := by decide +kernel
theorem dX7_redo_29 : decode cX7_redo 29 = .ok (.isub, 1) := by decide +kernel
theorem dX7_redo_30 : decode cX7_redo 30 = .ok (.putfield 253, 3) := by decide +kernel
theorem dX7_redo_33 : decode cX7_redo 33 = .ok (.iconst 1, 1) := by decide +kernel
theorem dX7_redo_34 : decode cX7_redo 34 = .ok (.ireturn, 1) := by decide +kernel
theorem dX7_image_0 : decode cX7_image 0 = .ok (.iload_n 1, 1) := by decide +kernel
theorem dX7_image_1 : decode cX7_image 1 = .ok (.iconst 0, 1) := by decide +kernel
theorem dX7_image_2 : decode cX7_image 2 = .ok (.iconst 1, 1) := by decide +kernel
theorem dX7_image_3 : decode cX7_image 3 = .ok (.invokestatic 94, 3) := by decide +kernel
theorem dX7_image_6 : decode cX7_image 6 = .ok (.ifCond .ne 5, 3) := by decide +kernel
theorem dX7_image_9 : decode cX7_image 9 = .ok (.iconst (-1), 1) := by decide +kernel
theorem dX7_image_10 : decode cX7_image 10 = .ok (.ireturn, 1) := by decide +kernel
theorem dX7_image_11 : decode cX7_image 11 = .ok (.iconst 0, 1) := by decide +kernel
theorem dX7_image_12 : decode cX7_image 12 = .ok (.istore_n 2, 1) := by decide +kernel
theorem dX7_image_13 : decode cX7_image 13 = .ok (.iload_n 2, 1) := by decide +kernel
theorem dX7_image_14 : decode cX7_image 14 = .ok (.sipush 790, 3) := by decide +kernel
theorem dX7_image_17 : decode cX7_image 17 = .ok (.if_icmp .ge 27, 3) := by decide +kernel
theorem dX7_image_20 : decode cX7_image 20 = .ok (.aload_n 0, 1) := by decide +kernel
theorem dX7_image_21 : decode cX7_image 21 = .ok (.getfield 84, 3) := by decide +kernel
theorem dX7_image_24 : decode cX7_image 24 = .ok (.sipush 790, 3) := by decide +kernel
theorem dX7_image_27 : decode cX7_image 27 = .ok (.iload_n 1, 1) := by decide +kernel
theorem dX7_image_28 : decode cX7_image 28 = .ok (.imul, 1) := by decide +kernel
theorem dX7_image_29 : decode cX7_image 29 = .ok (.iload_n 2, 1) := by decide +kernel
theorem dX7_image_30 : decode cX7_image 30 = .ok (.iadd, 1) := by decide +kernel
theorem dX7_image_31 : decode cX7_image 31 = .ok (.aload_n 0, 1) := by decide +kernel
theorem dX7_image_32 : decode cX7_image 32 = .ok (.getfield 7, 3) := by decide +kernel
theorem dX7_image_35 : decode cX7_image 35 = .ok (.iload_n 2, 1) := by decide +kernel
theorem dX7_image_36 : decode cX7_image 36 = .ok (.iaload, 1) := by decide +kernel
theorem dX7_image_37 : decode cX7_image 37 = .ok (.iastore, 1) := by decide +kernel
theorem dX7_image_38 : decode cX7_image 38 = .ok (.iinc 2 1, 3) := by decide +kernel
theorem dX7_image_41 : decode cX7_image 41 = .ok (.goto (-28), 3) := by decide +kernel
theorem dX7_image_44 : decode cX7_image 44 = .ok (.aload_n 0, 1) := by decide +kernel
theorem dX7_image_45 : decode cX7_image 45 = .ok (.getfield 87, 3) := by decide +kernel
theorem dX7_image_48 : decode cX7_image 48 = .ok (.iload_n 1, 1) := by decide +kernel
theorem dX7_image_49 : decode cX7_image 49 = .ok (.iconst 1, 1) := by decide +kernel
theorem dX7_image_50 : decode cX7_image 50 = .ok (.bastore, 1) := by decide +kernel
theorem dX7_image_51 : decode cX7_image 51 = .ok (.aload_n 0, 1) := by decide +kernel
theorem dX7_image_52 : decode cX7_image 52 = .ok (.invokevirtual 164, 3) := by decide +kernel
theorem dX7_image_55 : decode cX7_image 55 = .ok (.ireturn, 1) := by decide +kernel
theorem dX7_back_0 : decode cX7_back 0 = .ok (.iload_n 1, 1) := by decide +kernel
theorem dX7_back_1 : decode cX7_back 1 = .ok (.iconst 0, 1) := by decide +kernel
theorem dX7_back_2 : decode cX7_back 2 = .ok (.iconst 1, 1) := by decide +kernel
theorem dX7_back_3 : decode cX7_back 3 = .ok (.invokestatic 94, 3) := by decide +kernel
theorem dX7_back_6 : decode cX7_back 6 = .ok (.ifCond .eq 12, 3) := by decide +kernel
theorem dX7_back_9 : decode cX7_back 9 = .ok (.aload_n 0, 1) := by decide +kernel
theorem dX7_back_10 : decode cX7_back 10 = .ok (.getfield 87, 3) := by decide +kernel
theorem dX7_back_13 : decode cX7_back 13 = .ok (.iload_n 1, 1) := by decide +kernel
theorem dX7_back_14 : decode cX7_back 14 = .ok (.baload, 1) := by decide +kernel
theorem dX7_back_15 : decode cX7_back 15 = .ok (.ifCond .ne 5, 3) := by decide +kernel
theorem dX7_back_18 : decode cX7_back 18 = .ok (.iconst (-1), 1) := by decide +kernel
theorem dX7_back_19 : decode cX7_back 19 = .ok (.ireturn, 1) := by decide +kernel
theorem dX7_back_20 : decode cX7_back 20 = .ok (.iconst 0, 1) := by decide +kernel
theorem dX7_back_21 : decode cX7_back 21 = .ok (.istore_n 2, 1) := by decide +kernel
theorem dX7_back_22 : decode cX7_back 22 = .ok (.iload_n 2, 1) := by decide +kernel
theorem dX7_back_23 : decode cX7_back 23 = .ok (.sipush 790, 3) := by decide +kernel
theorem dX7_back_26 : decode cX7_back 26 = .ok (.if_icmp .ge 27, 3) := by decide +kernel
theorem dX7_back_29 : decode cX7_back 29 = .ok (.aload_n 0, 1) := by decide +kernel
theorem dX7_back_30 : decode cX7_back 30 = .ok (.getfield 7, 3) := by decide +kernel
theorem dX7_back_33 : decode cX7_back 33 = .ok (.iload_n 2, 1) := by decide +kernel
theorem dX7_back_34 : decode cX7_back 34 = .ok (.aload_n 0, 1) := by decide +kernel
theorem dX7_back_35 : decode cX7_back 35 = .ok (.getfield 84, 3) := by decide +kernel
theorem dX7_back_38 : decode cX7_back 38 = .ok (.sipush 790, 3) := by decide +kernel
theorem dX7_back_41 : decode cX7_back 41 = .ok (.iload_n 1, 1) := by decide +kernel
theorem dX7_back_42 : decode cX7_back 42 = .ok (.imul, 1) := by decide +kernel
theorem dX7_back_43 : decode cX7_back 43 = .ok (.iload_n 2, 1) := by decide +kernel
theorem dX7_back_44 : decode cX7_back 44 = .ok (.iadd, 1) := by decide +kernel
theorem dX7_back_45 : decode cX7_back 45 = .ok (.iaload, 1) := by decide +kernel
theorem dX7_back_46 : decode cX7_back 46 = .ok (.iastore, 1) := by decide +kernel
theorem dX7_back_47 : decode cX7_back 47 = .ok (.iinc 2 1, 3) := by decide +kernel
theorem dX7_back_50 : decode cX7_back 50 = .ok (.goto (-28), 3) := by decide +kernel
theorem dX7_back_53 : decode cX7_back 53 = .ok (.aload_n 0, 1) := by decide +kernel
theorem dX7_back_54 : decode cX7_back 54 = .ok (.iconst 0, 1) := by decide +kernel
theorem dX7_back_55 : decode cX7_back 55 = .ok (.putfield 250, 3) := by decide +kernel
theorem dX7_back_58 : decode cX7_back 58 = .ok (.aload_n 0, 1) := by decide +kernel
theorem dX7_back_59 : decode cX7_back 59 = .ok (.iconst 0, 1) := by decide +kernel
theorem dX7_back_60 : decode cX7_back 60 = .ok (.putfield 253, 3) := by decide +kernel
theorem dX7_back_63 : decode cX7_back 63 = .ok (.aload_n 0, 1) := by decide +kernel
theorem dX7_back_64 : decode cX7_back 64 = .ok (.invokevirtual 164, 3) := by decide +kernel
theorem dX7_back_67 : decode cX7_back 67 = .ok (.ireturn, 1) := by decide +kernel
theorem dX7_about_0 : decode cX7_about 0 = .ok (.iload_n 1, 1) := by decide +kernel
theorem dX7_about_1 : decode cX7_about 1 = .ok (.tableswitch 220 0 18 #[91, 100, 109, 118, 127, 136, 145, 154, 159, 159, 159, 159, 173, 182, 187, 192, 201, 210, 215], 91) := by decide +kernel
theorem dX7_about_92 : decode cX7_about 92 = .ok (.aload_n 0, 1) := by decide +kernel
theorem dX7_about_93 : decode cX7_about 93 = .ok (.getfield 7, 3) := by decide +kernel
theorem dX7_about_96 : decode cX7_about 96 = .ok (.sipush 725, 3) := by decide +kernel
theorem dX7_about_99 : decode cX7_about 99 = .ok (.iaload, 1) := by decide +kernel
theorem dX7_about_100 : decode cX7_about 100 = .ok (.ireturn, 1) := by decide +kernel
theorem dX7_about_101 : decode cX7_about 101 = .ok (.aload_n 0, 1) := by decide +kernel
theorem dX7_about_102 : decode cX7_about 102 = .ok (.getfield 7, 3) := by decide +kernel
theorem dX7_about_105 : decode cX7_about 105 = .ok (.sipush 726, 3) := by decide +kernel
theorem dX7_about_108 : decode cX7_about 108 = .ok (.iaload, 1) := by decide +kernel
theorem dX7_about_109 : decode cX7_about 109 = .ok (.ireturn, 1) := by decide +kernel
theorem dX7_about_110 : decode cX7_about 110 = .ok (.aload_n 0, 1) := by decide +kernel
theorem dX7_about_111 : decode cX7_about 111 = .ok (.getfield 7, 3) := by decide +kernel
theorem dX7_about_114 : decode cX7_about 114 = .ok (.sipush 729, 3) := by decide +kernel
theorem dX7_about_117 : decode cX7_about 117 = .ok (.iaload, 1) := by decide +kernel
theorem dX7_about_118 : decode cX7_about 118 = .ok (.ireturn, 1) := by decide +kernel
theorem dX7_about_119 : decode cX7_about 119 = .ok (.aload_n 0, 1) := by decide +kernel
theorem dX7_about_120 : decode cX7_about 120 = .ok (.getfield 7, 3) := by decide +kernel
theorem dX7_about_123 : decode cX7_about 123 = .ok (.sipush 730, 3) := by decide +kernel
theorem dX7_about_126 : decode cX7_about 126 = .ok (.iaload, 1) := by decide +kernel
theorem dX7_about_127 : decode cX7_about 127 = .ok (.ireturn, 1) := by decide +kernel
theorem dX7_about_128 : decode cX7_about 128 = .ok (.aload_n 0, 1) := by decide +kernel
theorem dX7_about_129 : decode cX7_about 129 = .ok (.getfield 7, 3) := by decide +kernel
theorem dX7_about_132 : decode cX7_about 132 = .ok (.sipush 731, 3) := by decide +kernel
theorem dX7_about_135 : decode cX7_about 135 = .ok (.iaload, 1) := by decide +kernel
theorem dX7_about_136 : decode cX7_about 136 = .ok (.ireturn, 1) := by decide +kernel
theorem dX7_about_137 : decode cX7_about 137 = .ok (.aload_n 0, 1) := by decide +kernel
theorem dX7_about_138 : decode cX7_about 138 = .ok (.getfield 7, 3) := by decide +kernel
theorem dX7_about_141 : decode cX7_about 141 = .ok (.sipush 732, 3) := by decide +kernel
theorem dX7_about_144 : decode cX7_about 144 = .ok (.iaload, 1) := by decide +kernel
theorem dX7_about_145 : decode cX7_about 145 = .ok (.ireturn, 1) := by decide +kernel
theorem dX7_about_146 : decode cX7_about 146 = .ok (.aload_n 0, 1) := by decide +kernel
theorem dX7_about_147 : decode cX7_about 147 = .ok (.getfield 7, 3) := by decide +kernel
theorem dX7_about_150 : decode cX7_about 150 = .ok (.sipush 733, 3) := by decide +kernel
theorem dX7_about_153 : decode cX7_about 153 = .ok (.iaload, 1) := by decide +kernel
theorem dX7_about_154 : decode cX7_about 154 = .ok (.ireturn, 1) := by decide +kernel
theorem dX7_about_155 : decode cX7_about 155 = .ok (.aload_n 0, 1) := by decide +kernel
theorem dX7_about_156 : decode cX7_about 156 = .ok (.invokevirtual 164, 3) := by decide +kernel
theorem dX7_about_159 : decode cX7_about 159 = .ok (.ireturn, 1) := by decide +kernel
theorem dX7_about_160 : decode cX7_about 160 = .ok (.aload_n 0, 1) := by decide +kernel
theorem dX7_about_161 : decode cX7_about 161 = .ok (.getfield 7, 3) := by decide +kernel
theorem dX7_about_164 : decode cX7_about 164 = .ok (.sipush 735, 3) := by decide +kernel
theorem dX7_about_167 : decode cX7_about 167 = .ok (.iload_n 1, 1) := by decide +kernel
theorem dX7_about_168 : decode cX7_about 168 = .ok (.iadd, 1) := by decide +kernel
theorem dX7_about_169 : decode cX7_about 169 = .ok (.bipush 8, 2) := by decide +kernel
theorem dX7_about_171 : decode cX7_about 171 = .ok (.isub, 1) := by decide +kernel
theorem dX7_about_172 : decode cX7_about 172 = .ok (.iaload, 1) := by decide +kernel
theorem dX7_about_173 : decode cX7_about 173 = .ok (.ireturn, 1) := by decide +kernel
theorem dX7_about_174 : decode cX7_about 174 = .ok (.aload_n 0, 1) := by decide +kernel
theorem dX7_about_175 : decode cX7_about 175 = .ok (.getfield 7, 3) := by decide +kernel
theorem dX7_about_178 : decode cX7_about 178 = .ok (.sipush 727, 3) := by decide +kernel
theorem dX7_about_181 : decode cX7_about 181 = .ok (.iaload, 1) := by decide +kernel
theorem dX7_about_182 : decode cX7_about 182 = .ok (.ireturn, 1) := by decide +kernel
theorem dX7_about_183 : decode cX7_about 183 = .ok (.aload_n 0, 1) := by decide +kernel
theorem dX7_about_184 : decode cX7_about 184 = .ok (.getfield 250, 3) := by decide +kernel
theorem dX7_about_187 : decode cX7_about 187 = .ok (.ireturn, 1) := by decide +kernel
theorem dX7_about_188 : decode cX7_about 188 = .ok (.aload_n 0, 1) := by decide +kernel
theorem dX7_about_189 : decode cX7_about 189 = .ok (.getfield 253, 3) := by decide +kernel
theorem dX7_about_192 : decode cX7_about 192 = .ok (.ireturn, 1) := by decide +kernel
theorem dX7_about_193 : decode cX7_about 193 = .ok (.aload_n 0, 1) := by decide +kernel
theorem dX7_about_194 : decode cX7_about 194 = .ok (.getfield 7, 3) := by decide +kernel
theorem dX7_about_197 : decode cX7_about 197 = .ok (.sipush 734, 3) := by decide +kernel
theorem dX7_about_200 : decode cX7_about 200 = .ok (.iaload, 1) := by decide +kernel
theorem dX7_about_201 : decode cX7_about 201 = .ok (.ireturn, 1) := by decide +kernel
theorem dX7_about_202 : decode cX7_about 202 = .ok (.aload_n 0, 1) := by decide +kernel
theorem dX7_about_203 : decode cX7_about 203 = .ok (.getfield 7, 3) := by decide +kernel
theorem dX7_about_206 : decode cX7_about 206 = .ok (.sipush 741, 3) := by decide +kernel
theorem dX7_about_209 : decode cX7_about 209 = .ok (.iaload, 1) := by decide +kernel
theorem dX7_about_210 : decode cX7_about 210 = .ok (.ireturn, 1) := by decide +kernel
theorem dX7_about_211 : decode cX7_about 211 = .ok (.aload_n 0, 1) := by decide +kernel
theorem dX7_about_212 : decode cX7_about 212 = .ok (.getfield 433, 3) := by decide +kernel
theorem dX7_about_215 : decode cX7_about 215 = .ok (.ireturn, 1) := by decide +kernel
theorem dX7_about_216 : decode cX7_about 216 = .ok (.aload_n 0, 1) := by decide +kernel
theorem dX7_about_217 : decode cX7_about 217 = .ok (.getfield 320, 3) := by decide +kernel
theorem dX7_about_220 : decode cX7_about 220 = .ok (.ireturn, 1) := by decide +kernel
theorem dX7_about_221 : decode cX7_about 221 = .ok (.bipush (-2), 2) := by decide +kernel
theorem dX7_about_223 : decode cX7_about 223 = .ok (.ireturn, 1) := by decide +kernel
theorem dJ9_max_7cf53_0 : decode cJ9_max_7cf53 0 = .ok (.iload_n 0, 1) := by decide +kernel
theorem dJ9_max_7cf53_1 : decode cJ9_max_7cf53 1 = .ok (.iload_n 1, 1) := by decide +kernel
theorem dJ9_max_7cf53_2 : decode cJ9_max_7cf53 2 = .ok (.if_icmp .lt 7, 3) := by decide +kernel
theorem dJ9_max_7cf53_5 : decode cJ9_max_7cf53 5 = .ok (.iload_n 0, 1) := by decide +kernel
theorem dJ9_max_7cf53_6 : decode cJ9_max_7cf53 6 = .ok (.goto 4, 3) := by decide +kernel
theorem dJ9_max_7cf53_9 : decode cJ9_max_7cf53 9 = .ok (.iload_n 1, 1) := by decide +kernel
theorem dJ9_max_7cf53_10 : decode cJ9_max_7cf53 10 = .ok (.ireturn, 1) := by decide +kernel
theorem dJ9_min_7cf53_0 : decode cJ9_min_7cf53 0 = .ok (.iload_n 0, 1) := by decide +kernel
theorem dJ9_min_7cf53_1 : decode cJ9_min_7cf53 1 = .ok (.iload_n 1, 1) := by decide +kernel
theorem dJ9_min_7cf53_2 : decode cJ9_min_7cf53 2 = .ok (.if_icmp .gt 7, 3) := by decide +kernel
theorem dJ9_min_7cf53_5 : decode cJ9_min_7cf53 5 = .ok (.iload_n 0, 1) := by decide +kernel
theorem dJ9_min_7cf53_6 : decode cJ9_min_7cf53 6 = .ok (.goto 4, 3) := by decide +kernel
theorem dJ9_min_7cf53_9 : decode cJ9_min_7cf53 9 = .ok (.iload_n 1, 1) := by decide +kernel
theorem dJ9_min_7cf53_10 : decode cJ9_min_7cf53 10 = .ok (.ireturn, 1) := by decide +kernel
theorem dJ0_length_8abf5_0 : decode cJ0_length_8abf5 0 = .ok (.aload_n 0, 1) := by decide +kernel
theorem dJ0_length_8abf5_1 : decode cJ0_length_8abf5 1 = .ok (.getfield 9, 3) := by decide +kernel
theorem dJ0_length_8abf5_4 : decode cJ0_length_8abf5 4 = .ok (.arraylength, 1) := by decide +kernel
theorem dJ0_length_8abf5_5 : decode cJ0_length_8abf5 5 = .ok (.aload_n 0, 1) := by decide +kernel
theorem dJ0_length_8abf5_6 : decode cJ0_length_8abf5 6 = .ok (.invokevirtual 335, 3) := by decide +kernel
theorem dJ0_length_8abf5_9 : decode cJ0_length_8abf5 9 = .ok (.ishr, 1) := by decide +kernel
theorem dJ0_length_8abf5_10 : decode cJ0_length_8abf5 10 = .ok (.ireturn, 1) := by decide +kernel
theorem dJ0_charAt_5068e_0 : decode cJ0_charAt_5068e 0 = .ok (.aload_n 0, 1) := by decide +kernel
theorem dJ0_charAt_5068e_1 : decode cJ0_charAt_5068e 1 = .ok (.invokevirtual 492, 3) := by decide +kernel
theorem dJ0_charAt_5068e_4 : decode cJ0_charAt_5068e 4 = .ok (.ifCond .eq 12, 3) := by decide +kernel
theorem dJ0_charAt_5068e_7 : decode cJ0_charAt_5068e 7 = .ok (.aload_n 0, 1) := by decide +kernel
theorem dJ0_charAt_5068e_8 : decode cJ0_charAt_5068e 8 = .ok (.getfield 9, 3) := by decide +kernel
theorem dJ0_charAt_5068e_11 : decode cJ0_charAt_5068e 11 = .ok (.iload_n 1, 1) := by decide +kernel
theorem dJ0_charAt_5068e_12 : decode cJ0_charAt_5068e 12 = .ok (.invokestatic 495, 3) := by decide +kernel
theorem dJ0_charAt_5068e_15 : decode cJ0_charAt_5068e 15 = .ok (.ireturn, 1) := by decide +kernel
theorem dJ0_charAt_5068e_16 : decode cJ0_charAt_5068e 16 = .ok (.aload_n 0, 1) := by decide +kernel
theorem dJ0_charAt_5068e_17 : decode cJ0_charAt_5068e 17 = .ok (.getfield 9, 3) := by decide +kernel
theorem dJ0_charAt_5068e_20 : decode cJ0_charAt_5068e 20 = .ok (.iload_n 1, 1) := by decide +kernel
theorem dJ0_charAt_5068e_21 : decode cJ0_charAt_5068e 21 = .ok (.invokestatic 498, 3) := by decide +kernel
theorem dJ0_charAt_5068e_24 : decode cJ0_charAt_5068e 24 = .ok (.ireturn, 1) := by decide +kernel
theorem dJ0_coder_7d493_0 : decode cJ0_coder_7d493 0 = .ok (.getstatic 38, 3) := by decide +kernel
theorem dJ0_coder_7d493_3 : decode cJ0_coder_7d493 3 = .ok (.ifCond .eq 10, 3) := by decide +kernel
theorem dJ0_coder_7d493_6 : decode cJ0_coder_7d493 6 = .ok (.aload_n 0, 1) := by decide +kernel
theorem dJ0_coder_7d493_7 : decode cJ0_coder_7d493 7 = .ok (.getfield 15, 3) := by decide +kernel
theorem dJ0_coder_7d493_10 : decode cJ0_coder_7d493 10 = .ok (.goto 4, 3) := by decide +kernel
theorem dJ0_coder_7d493_13 : decode cJ0_coder_7d493 13 = .ok (.iconst 1, 1) := by decide +kernel
theorem dJ0_coder_7d493_14 : decode cJ0_coder_7d493 14 = .ok (.ireturn, 1) := by decide +kernel
theorem dJ0_isLatin1_aae02_0 : decode cJ0_isLatin1_aae02 0 = .ok (.getstatic 38, 3) := by decide +kernel
theorem dJ0_isLatin1_aae02_3 : decode cJ0_isLatin1_aae02 3 = .ok (.ifCond .eq 14, 3) := by decide +kernel
theorem dJ0_isLatin1_aae02_6 : decode cJ0_isLatin1_aae02 6 = .ok (.aload_n 0, 1) := by decide +kernel
theorem dJ0_isLatin1_aae02_7 : decode cJ0_isLatin1_aae02 7 = .ok (.getfield 15, 3) := by decide +kernel
theorem dJ0_isLatin1_aae02_10 : decode cJ0_isLatin1_aae02 10 = .ok (.ifCond .ne 7, 3) := by decide +kernel
theorem dJ0_isLatin1_aae02_13 : decode cJ0_isLatin1_aae02 13 = .ok (.iconst 1, 1) := by decide +kernel
theorem dJ0_isLatin1_aae02_14 : decode cJ0_isLatin1_aae02 14 = .ok (.goto 4, 3) := by decide +kernel
theorem dJ0_isLatin1_aae02_17 : decode cJ0_isLatin1_aae02 17 = .ok (.iconst 0, 1) := by decide +kernel
theorem dJ0_isLatin1_aae02_18 : decode cJ0_isLatin1_aae02 18 = .ok (.ireturn, 1) := by decide +kernel
theorem dJ0_checkIndex_df160_0 : decode cJ0_checkIndex_df160 0 = .ok (.iload_n 0, 1) := by decide +kernel
theorem dJ0_checkIndex_df160_1 : decode cJ0_checkIndex_df160 1 = .ok (.iload_n 1, 1) := by decide +kernel
theorem dJ0_checkIndex_df160_2 : decode cJ0_checkIndex_df160 2 = .ok (.getstatic 1053, 3) := by decide +kernel
theorem dJ0_checkIndex_df160_5 : decode cJ0_checkIndex_df160 5 = .ok (.invokestatic 1059, 3) := by decide +kernel
theorem dJ0_checkIndex_df160_8 : decode cJ0_checkIndex_df160 8 = .ok (.pop, 1) := by decide +kernel
theorem dJ0_checkIndex_df160_9 : decode cJ0_checkIndex_df160 9 = .ok (.return_, 1) := by decide +kernel
theorem dJ1_charAt_3b067_0 : decode cJ1_charAt_3b067 0 = .ok (.iload_n 1, 1) := by decide +kernel
theorem dJ1_charAt_3b067_1 : decode cJ1_charAt_3b067 1 = .ok (.aload_n 0, 1) := by decide +kernel
theorem dJ1_charAt_3b067_2 : decode cJ1_charAt_3b067 2 = .ok (.arraylength, 1) := by decide +kernel
theorem dJ1_charAt_3b067_3 : decode cJ1_charAt_3b067 3 = .ok (.invokestatic 9, 3) := by decide +kernel
theorem dJ1_charAt_3b067_6 : decode cJ1_charAt_3b067 6 = .ok (.aload_n 0, 1) := by decide +kernel
